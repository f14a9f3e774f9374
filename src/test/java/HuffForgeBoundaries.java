import java.util.ArrayList;
import java.util.List;

/**
 * Each sentence of the document that names a boundary case, with a run of its own.
 *
 * A run is lines of text, played on a new object: "count 1 255 = true" is a call and the answer that
 * is due; "symbol 0..3 = 1..4" is four calls; "2 * get = -1" is two. A call behind "! " must change
 * nothing: two objects, one with it and one without, then answer all that PROBES asks alike.
 */
public final class HuffForgeBoundaries {
    private static final int PROMISED_CALLS = 512;
    private static final String ARGUMENT = "throws.IllegalArgumentException";
    private static final String STATE = "throws.IllegalStateException";

    private static final String[][] PROBES = {
        {"look 0..6", "of 0 1..16"},
        {"of 1 0..127"},
        {"of 1 128..255"},
        {"length 0..127"},
        {"length 128..255"},
        {"code 0..127"},
        {"code 128..255"},
        {"comes 0..127 0"},
        {"comes 128..255 0"},
        {"best", "look 0..6", "of 0 1..16"},
        {"seek 0", "12 * bits 16", "16 * bits 1"},
        {"seek 65504", "33 * bits 1"},
        {"4 * get", "look 3", "2 * bits 1"},
        {"make", "look 0..6", "of 0 1..16", "of 1 0..127"},
        {"make", "of 1 128..255"},
        {"symbol 200", "make", "of 0 1..16", "of 1 0..31"},
        {"count 16 1", "make", "of 0 1..16", "of 1 0..31"},
    };

    private static int wrong = 0;

    /** An object, and how many calls it has had. */
    private static final class Played {
        private final HuffForge x = new HuffForge();
        private final int most;
        private int calls = 0;

        Played(int most) {
            this.most = most;
        }

        /** The answers to all calls of a line (without what is due). */
        List<String> play(String line) {
            String[] parts = line.split(" \\* ");
            String[] words = parts[parts.length - 1].split(" ");
            List<String> first = each(words.length > 1 ? words[1] : "0");
            List<String> second = each(words.length > 2 ? words[2] : "0");
            int times = parts.length > 1 ? Integer.parseInt(parts[0]) : Math.max(first.size(), second.size());
            List<String> answers = new ArrayList<>();
            for (int i = 0; i < times; i++) {
                answers.add(answer(words[0], number(first, i), number(second, i)));
            }
            return answers;
        }

        private String answer(String name, int a, int b) {
            calls++;
            if (calls > most) {
                throw new AssertionError("a test has more than " + most + " calls on one object");
            }
            try {
                return String.valueOf(call(name, a, b));
            } catch (RuntimeException e) {
                return "throws." + e.getClass().getSimpleName();
            }
        }

        private Object call(String name, int a, int b) {
            switch (name) {
                case "count": return x.count(a, b);
                case "symbol": return x.symbol(a);
                case "wipe":
                    x.wipe();
                    return "";
                case "make": return x.make();
                case "comes": return x.comes(a, b);
                case "forget":
                    x.forget();
                    return "";
                case "best": return x.best();
                case "length": return x.length(a);
                case "code": return x.code(a);
                case "of": return x.of(a, b);
                case "put": return x.put(a);
                case "raw": return x.raw(a, b);
                case "get": return x.get();
                case "bits": return x.bits(a);
                case "seek": return x.seek(a);
                case "cut": return x.cut(a);
                case "look": return x.look(a);
                default: throw new UnsupportedOperationException(name);
            }
        }
    }

    /** "3" is itself, "0..2" is 0, 1 and 2. */
    private static List<String> each(String text) {
        String[] ends = text.split("\\.\\.");
        if (ends.length == 1) {
            return List.of(text);
        }
        List<String> all = new ArrayList<>();
        for (int i = Integer.parseInt(ends[0]); i <= Integer.parseInt(ends[1]); i++) {
            all.add(String.valueOf(i));
        }
        return all;
    }

    private static int number(List<String> all, int i) {
        String text = all.get(i % all.size());
        return text.equals("MIN") ? Integer.MIN_VALUE : text.equals("MAX") ? Integer.MAX_VALUE : Integer.parseInt(text);
    }

    private static void run(String sentence, String... lines) {
        run(PROMISED_CALLS, sentence, lines);
    }

    private static void run(int most, String sentence, String... lines) {
        Played played = new Played(most);
        for (int i = 0; i < lines.length; i++) {
            String[] sides = callOf(lines[i]).split(" = ");
            List<String> got = played.play(sides[0]);
            if (sides.length > 1) {
                hold(sentence, "line " + (i + 1) + ", " + sides[0], got, dueTo(sides[1], got.size()));
            }
            if (isQuiet(lines[i])) {
                changesNothing(most, sentence, lines, i);
            }
        }
    }

    private static boolean isQuiet(String line) {
        return line.startsWith("! ");
    }

    private static String callOf(String line) {
        return isQuiet(line) ? line.substring(2) : line;
    }

    private static List<String> dueTo(String answer, int calls) {
        List<String> all = answer.startsWith("throws") ? List.of(answer) : each(answer);
        List<String> due = new ArrayList<>();
        for (int i = 0; i < calls; i++) {
            due.add(all.get(i % all.size()));
        }
        return due;
    }

    private static void changesNothing(int most, String sentence, String[] lines, int quiet) {
        for (String[] probe : PROBES) {
            List<String> with = answersBehind(most, lines, quiet, true, probe);
            List<String> without = answersBehind(most, lines, quiet, false, probe);
            hold(sentence, "line " + (quiet + 1) + " and then " + String.join(", ", probe), with, without);
        }
    }

    private static List<String> answersBehind(int most, String[] lines, int last, boolean quietOnes, String[] probe) {
        Played played = new Played(most);
        for (int i = 0; i <= last; i++) {
            if (quietOnes || !isQuiet(lines[i])) {
                played.play(callOf(lines[i]).split(" = ")[0]);
            }
        }
        List<String> answers = new ArrayList<>();
        for (String line : probe) {
            answers.addAll(played.play(line));
        }
        return answers;
    }

    private static void hold(String sentence, String what, List<String> got, List<String> due) {
        if (!got.equals(due)) {
            wrong++;
            System.out.println("\"" + sentence + "\": " + what + " answered " + got + ", due is " + due);
        }
    }

    // ---- Terms

    private static void codeWords() {
        run("A TABLE has CODE WORDS of 1 .. 16 bits: the shortest",
                "count 1 1 = true", "symbol 7 = 1", "make = 1", "length 7 = 1", "code 7 = 0", "look 6 = 1");
        run("A TABLE has CODE WORDS of 1 .. 16 bits: the longest",
                "count 16 1 = true", "symbol 7 = 1", "make = 1", "length 7 = 16", "code 7 = 0", "look 6 = 16");
        run("each for a SYMBOL 0 .. 255",
                "count 2 2", "! symbol -1 = -1", "symbol 0 = 1", "symbol 255 = 2", "! symbol 256 = -1", "make = 2",
                "of 1 0 = 0", "of 1 1 = 255", "code 0 = 0", "code 255 = 1");
        run("each symbol once at most",
                "count 2 2", "symbol 5 = 1", "symbol 5 = 2", "! make = -2", "look 0 = 0");
        for (int n = 1; n <= 16; n++) {
            run("the first one is as many 0s as its length says",
                    "count " + n + " 1", "symbol 3", "make = 1", "length 3 = " + n, "code 3 = 0", "put 3 = " + n,
                    n + " * bits 1 = 0", "bits 1 = -1");
        }
        run("each further one is the one before, as a number, plus 1: of the same length",
                "count 16 255", "symbol 0..254", "make = 255", "code 4..254 = 4..254", "length 254 = 16");
        for (int n = 2; n <= 16; n++) {
            run("with as many 0s behind it as it is longer",
                    "count 1 1", "count " + n + " 1", "symbol 8..9", "make = 2", "code 8 = 0",
                    "code 9 = " + (1 << n - 1), "put 9 = " + n, "bits 1 = 1", n - 1 + " * bits 1 = 0");
        }
    }

    private static void draft() {
        run("The DRAFT is COUNTS (0 .. 255 each)",
                "count 8 255 = true", "! count 8 256 = false", "! count 8 -1 = false", "symbol 0..254", "make = 255",
                "of 0 8 = 255", "count 8 0 = true", "! make = -1", "wipe", "count 8 0 = true", "make = 0");
        run("a row of at most 256 symbols",
                "count 8 255", "count 9 1", "symbol 0..254 = 1..255", "symbol 255 = 256", "! symbol 0 = -1",
                "! symbol 255 = -1", "! symbol 256 = -1", "! symbol 7 = -1", "look 1 = 256", "make = 256",
                "of 1 0..127 = 0..127", "of 1 255 = 255");
        run("at first all are 0, and none",
                "look 1 = 0", "make = 0", "of 0 1..16 = 0");
        for (int n = 1; n <= 16; n++) {
            run("at first all are 0: none but that which is told is there",
                    "count " + n + " 1", "symbol 9 = 1", "make = 1", "of 0 " + n + " = 1", "look 0 = 1");
        }
    }

    private static void right() {
        run("the COUNTS together are as many as the symbols: one too few, as many, one too many",
                "count 3 2", "symbol 1", "! make = -1", "symbol 2", "make = 2", "symbol 3", "! make = -1",
                "look 0 = 2", "count 3 3", "make = 3");
        run("the COUNTS together are as many as the symbols: none, and one",
                "count 16 1", "! make = -1", "count 16 0", "make = 0", "symbol 1", "! make = -1", "count 1 1", "make = 1");
        run("the COUNTS together are as many as the symbols: 255, 256 and 257 for 256",
                "symbol 0..255", "count 8 255", "! make = -1", "count 10 1", "make = 256", "count 9 1", "! make = -1",
                "count 10 0", "make = 256");
        run("the COUNTS together are as many as the symbols: 256 for none",
                "count 9 255", "count 10 1", "! make = -1", "look 0 = 0");
        run("the COUNTS together are as many as the symbols: the most that can be",
                "symbol 0..255", "count 1..16 255 = true", "! make = -1");
        run("no symbol is there twice: one behind the other",
                "count 4 3", "symbol 255", "symbol 255", "symbol 0", "! make = -2");
        run("no symbol is there twice: 0, the first and the last of 256",
                "symbol 0..254", "symbol 0 = 256", "count 8 255", "count 9 1", "! make = -2", "look 0 = 0");
        run("no symbol is there twice: 255, the first and the last of 256",
                "symbol 255", "symbol 1..255", "count 8 255", "count 9 1", "! make = -2", "look 0 = 0");
        run("no symbol is there twice: what an earlier make has seen does not count",
                "count 2 2", "symbol 1..2", "make = 2", "make = 2", "wipe", "count 2 2", "symbol 1..2", "make = 2");
    }

    private static void allOnes() {
        for (int n = 1; n <= 7; n++) {
            int all = 1 << n;
            run("no word is all 1s (in its length) or more than that, " + n + " bits",
                    "count " + n + " " + (all - 1), "symbol 0.." + (all - 2), "make = " + (all - 1),
                    "code " + (all - 2) + " = " + (all - 2),
                    "count " + n + " " + all, "symbol " + (all - 1), "! make = -3",
                    "count " + n + " " + (all + 1), "symbol " + all, "! make = -3", "look 0 = " + (all - 1),
                    "count " + n + " 1", "count 16 " + all, "make = " + (all + 1));
        }
        run("no word is all 1s: 255 of eight bits", "count 8 255", "symbol 0..254", "make = 255", "code 254 = 254");
        for (int n = 2; n <= 16; n++) {
            run("no word is all 1s (in its length), one each up to " + n + " bits",
                    "count 1.." + n + " 1", "symbol 1.." + n, "make = " + n, "code " + n + " = " + ((1 << n) - 2),
                    "count " + n + " 2", "symbol 0", "! make = -3",
                    "count " + n + " 3", "symbol 255", "! make = -3", "look 0 = " + n);
        }
        for (int n = 2; n <= 16; n++) {
            run("would have to be more than all 1s: behind two words of one bit, one of " + n,
                    "count 1 2", "count " + n + " 1", "symbol 1..3", "! make = -3", "count 1 1",
                    "count " + n + " 2", n == 2 ? "! make = -3" : "make = 3");
        }
        run("would have to be more than all 1s: 255 of one bit", "count 1 255", "symbol 0..254", "! make = -3");
        run("would have to be more than all 1s: 255 of one bit each, then one more",
                "count 1 255", "count 16 1", "symbol 0..255", "! make = -3");
    }

    private static void firstTable() {
        run("At first the TABLE has no words",
                "! look 0 = 0", "! look 6 = 0", "! of 0 1 = 0", "! of 0 16 = 0", "! of 1 0 = -1", "! put 0 = " + ARGUMENT,
                "! put 255 = " + ARGUMENT, "! get = -1", "raw 0 16 = 16", "! get = -2");
        run("At first the TABLE has no words: lengths", "length 0..255 = 0", "code 0..255 = -1");
    }

    private static void howOften() {
        run("for each symbol a number, 0 at first", "comes 0..255 0 = 0", "look 4 = 0", "look 5 = 0");
        run("together at most 1000000: of one symbol",
                "comes 0 1000000 = 1000000", "! comes 0 1 = " + STATE, "! comes 255 1 = " + STATE,
                "! comes 0 0 = 1000000", "! comes 255 0 = 0", "look 4 = 1000000", "look 5 = 1");
        run("together at most 1000000: of two symbols",
                "comes 0 999999 = 999999", "! comes 255 2 = " + STATE, "comes 255 1 = 1", "! comes 255 1 = " + STATE,
                "! comes 0 1 = " + STATE, "look 4 = 1000000", "look 5 = 2");
        run("together at most 1000000: of all symbols",
                "comes 0..254 3906 = 3906", "! comes 255 3971 = " + STATE, "comes 255 3970 = 3970",
                "! comes 7 1 = " + STATE, "look 4 = 1000000", "look 5 = 256");
        run("together at most 1000000: too many at once, and so many that an int wraps around",
                "! comes 0 1000001 = " + STATE, "! comes 0 MAX = " + STATE, "comes 0 1 = 1", "! comes 0 MAX = " + STATE,
                "! comes 1 MAX = " + STATE, "! comes 0 1000000 = " + STATE, "comes 0 999999 = 1000000");
    }

    // ---- The best table

    private static void bestOfFew() {
        run("THE BEST TABLE of all symbols that come at all, if there are any: none",
                "best = 0", "look 0..6 = 0", "of 0 1..16 = 0");
        run("of all symbols that come at all: one that comes 0 times does not",
                "comes 7 0 = 0", "best = 0", "look 0 = 0", "length 7 = 0");
        run("of all symbols that come at all: 0 alone, once",
                "comes 0 1", "best = 1", "look 0 = 1", "code 0 = 0", "of 1 0 = 0", "of 0 1 = 1", "of 0 2..16 = 0");
        run("of all symbols that come at all: 255 alone, as often as can be",
                "comes 255 1000000", "best = 1000000", "look 0 = 1", "length 255 = 1", "code 255 = 0");
        run("of all symbols that come at all: all 256, once each",
                "comes 0..255 1", "best = 2049", "look 0 = 256", "look 6 = 9", "of 0 8 = 255", "of 0 9 = 1",
                "length 255 = 9", "code 254 = 254", "code 255 = 510");
        // 256 and 1 are one group of 2 in place 256; 0 and that one: 0 has one bit, 1 has two.
        run("of those with the least number the one with the greatest place is A, and of the others B",
                "comes 0 1", "comes 1 1", "best = 3", "length 0 = 1", "length 1 = 2", "code 1 = 2");
        // 256 and 1: 2 in place 256. 0 and 256 (2's number, a greater place): 3 in place 0. 2 and 0.
        run("place 256 with 1; both are one group, in A's place (not in B's)",
                "comes 0 1", "comes 1 1", "comes 2 2", "best = 7", "length 2 = 1", "length 0 = 2", "length 1 = 3",
                "code 0 = 2", "code 1 = 6");
        // 256 and 1: 2 in 256. 0 and 256: 3 in 0. 2 and 3 (0's number, a greater place): 5 in 2. 0 and 2.
        run("both are one group, in A's place (not in the greater one)",
                "comes 0 1", "comes 1 1", "comes 2 2", "comes 3 3", "best = 15", "length 0 = 2", "length 2..3 = 2",
                "length 1 = 3", "of 0 2 = 3", "of 0 3 = 1");
        run("with the sum of their numbers: a chain, as each is as often as all before it",
                "comes 0 1", "comes 1 2", "comes 2 4", "comes 3 8", "best = 26", "length 3 = 1", "length 2 = 2",
                "length 1 = 3", "length 0 = 4", "code 0 = 14");
    }

    private static String[] twofold(int n, String... then) {
        List<String> lines = new ArrayList<>();
        for (int s = 0; s < n; s++) {
            lines.add("comes " + s + " " + (1 << s));
        }
        lines.addAll(List.of(then));
        return lines.toArray(new String[0]);
    }

    private static void bestOfLongWords() {
        // Symbol s has n - s bits, place 256 has n as symbol 0 does.
        run("lengths above 16 are done away with: 16 itself is not", twofold(16,
                "best = 131054", "of 0 1..16 = 1", "look 6 = 16", "length 0 = 16", "length 15 = 1", "code 0 = 65534"));
        // 1 each of 1 .. 16 and 2 of 17; J 15: none of 17, 1 + 1 + 2 of 16, none of 15; one of 16 goes.
        run("lengths above 16 are done away with: 17 is", twofold(17,
                "best = 262128", "of 0 1..14 = 1", "of 0 15 = 0", "of 0 16 = 3", "look 6 = 16", "length 0..2 = 16",
                "length 3 = 14", "code 2 = 65532", "code 1 = 65533", "code 0 = 65534"));
        // 1 each of 1 .. 17 and 2 of 18. L 18, J 16: 4 of 17, none of 16. L 17, J 15: 2 of 17, 3 of 16, none of 15;
        // J 14, as there is none of 15: none of 17, 4 of 16, 2 of 15, none of 14. One of 16 goes.
        run("from the greatest one, L, on down; J is the greatest length below L - 1 of which there is a word",
                twofold(18, "best = 524280", "of 0 1..13 = 1", "of 0 14 = 0", "of 0 15 = 2", "of 0 16 = 3",
                "length 0..2 = 16", "length 3..4 = 15", "length 5 = 13", "code 4 = 32764", "code 0 = 65534"));
        run("The symbols lie by their bits (before lengths were done away with), the fewest first",
                twofold(17, "best", "of 1 14 = 2", "of 1 15 = 1", "of 1 16 = 0", "of 1 17 = -1"));
        // 256 and 1: 2 in 256. 0 and 256: 3 in 0. 3 and 2: 5 in 3. 0 and 3. So 0, 2 and 3 have two bits each.
        run("and by their numbers among these (not by how often they come)",
                "comes 0 1", "comes 1 1", "comes 2 3", "comes 3 2", "best = 15", "of 1 0 = 0", "of 1 1 = 2",
                "of 1 2 = 3", "of 1 3 = 1", "code 0 = 0", "code 2 = 1", "code 3 = 2", "code 1 = 6");
        run("one word of the greatest length that there is goes (place 256 is none of the symbols)",
                "comes 0..2 5", "best = 30", "look 0 = 3", "of 0 2 = 3", "code 0..2 = 0..2", "of 1 3 = -1");
    }

    /** The deepest groups that 1000000 allow: each number is that of the two before it, 28 of them. */
    private static void bestOfDeepest() {
        List<String> lines = new ArrayList<>();
        int number = 1;
        int next = 1;
        for (int s = 255; s > 227; s--) {
            lines.add("comes " + s + " " + number);
            int sum = number + next;
            number = next;
            next = sum;
        }
        lines.addAll(List.of("look 4 = 832039", "! comes 0 167962 = " + STATE, "best = 2180500", "look 0 = 28",
                "look 6 = 16", "of 0 1..11 = 1", "of 0 12 = 0", "of 0 13 = 2", "of 0 14..15 = 0", "of 0 16 = 15",
                "of 1 0..27 = 228..255", "length 239..240 = 13", "length 241..255 = 16", "code 255 = 65534"));
        run("lengths above 16 are done away with: 28, the greatest there can be", lines.toArray(new String[0]));
    }

    private static void row() {
        run("THE ROW has none at first; PLACE is 0 at first",
                "look 2 = 0", "look 3 = 0", "bits 0 = 0", "! bits 1 = -1", "! get = -1", "raw 5 3 = 3", "look 3 = 0",
                "bits 3 = 5", "look 3 = 3");
        run("Of several exceptions the first one listed is thrown",
                "! comes -1 1000001 = " + ARGUMENT, "! comes 256 MAX = " + ARGUMENT, "comes 3 1000000 = 1000000",
                "! comes -1 1 = " + ARGUMENT, "! comes 256 1 = " + ARGUMENT, "! comes 3 -1 = " + ARGUMENT,
                "! comes 3 MIN = " + ARGUMENT, "! comes 3 1 = " + STATE);
    }

    /** More calls than are promised: by 512 of them no ROW is full, but the document names the case. */
    private static void fullRow() {
        run(5000, "THE ROW has up to 65536 bits: by raw",
                "4095 * raw 21845 16", "raw 0 15 = 65535", "! raw 0 2 = " + STATE, "! raw 0 16 = " + STATE,
                "raw 3 1 = 65536", "! raw 0 1 = " + STATE, "! raw 0 16 = " + STATE, "! raw 0 0 = 65536",
                "! raw 0 17 = " + ARGUMENT, "! raw 0 -1 = " + ARGUMENT, "! put 0 = " + ARGUMENT,
                "! seek 65537 = false", "seek 65535 = true", "! bits 2 = -1", "bits 1 = 1", "seek 65536 = true",
                "! get = -1", "! bits 1 = -1", "! bits 0 = 0", "! cut 65537 = false", "! cut 65536 = true",
                "cut 65535 = true", "look 3 = 65535", "! raw 1 2 = " + STATE, "raw 1 1 = 65536");
        run(5000, "THE ROW has up to 65536 bits: by put, of one bit and of 16",
                "count 1 1", "count 16 1", "symbol 4..5", "make = 2", "4095 * put 5", "look 2 = 65520", "put 4 = 65521",
                "! put 5 = " + STATE, "cut 65520", "put 5 = 65536", "! put 4 = " + STATE, "! put 5 = " + STATE,
                "! put 6 = " + ARGUMENT, "! put -1 = " + ARGUMENT, "! put 256 = " + ARGUMENT, "seek 65520 = true",
                "get = 5", "look 3 = 65536");
    }

    // ---- Promises

    private static void newObject() {
        run("Promise 1: A new object: as said above",
                "! look 0..6 = 0", "! of 0 1..16 = 0", "! of 1 0 = -1", "! make = 0", "! best = 0", "! wipe", "! forget",
                "! get = -1", "! bits 0 = 0", "! seek 0 = true", "! cut 0 = true", "! raw -1 0 = 0");
    }

    private static void count() {
        run("Promise 2: false if there is no such length",
                "count 1 1 = true", "count 16 1 = true", "! count 0 2 = false", "! count 17 2 = false",
                "! count -1 2 = false", "! count MIN 2 = false", "! count MAX 2 = false", "symbol 1..2",
                "make = 2", "of 0 1 = 1", "of 0 2..15 = 0", "of 0 16 = 1");
        run("Promise 2: or n is not 0 .. 255",
                "count 16 255 = true", "! count 16 256 = false", "! count 16 -1 = false", "! count 16 MIN = false",
                "! count 16 MAX = false", "symbol 0..254", "make = 255", "! count 16 256 = false", "count 16 0 = true",
                "! make = -1");
        run("Promise 2: neither", "! count 0 -1 = false", "! count 17 256 = false", "! count 0 0 = false", "make = 0");
        run("Promise 2: the COUNT of a length is told anew, it does not add up; the TABLE's stays",
                "count 3 5 = true", "count 3 2 = true", "symbol 1..2", "make = 2", "! of 0 3 = 2", "count 3 4 = true",
                "of 0 3 = 2", "length 1..2 = 3");
    }

    private static void symbol() {
        run("Promise 3: NONE if there is no such symbol",
                "! symbol -1 = -1", "! symbol 256 = -1", "! symbol MIN = -1", "! symbol MAX = -1", "look 1 = 0",
                "symbol 0 = 1", "! symbol -1 = -1", "! symbol 256 = -1", "symbol 255 = 2", "look 1 = 2");
        run("Promise 3: or it has 256 (the same one as well as others)",
                "256 * symbol 6 = 1..256", "! symbol 6 = -1", "! symbol 7 = -1", "! symbol -1 = -1", "look 1 = 256",
                "wipe", "symbol 6 = 1");
    }

    private static void wipe() {
        run("Promise 4: The DRAFT is as at first: when it is full",
                "symbol 0..255", "count 1..16 255 = true", "wipe", "look 1 = 0", "! make = 0", "symbol 3 = 1",
                "count 2 1 = true", "make = 1", "of 0 1 = 0", "of 0 2 = 1", "of 0 3..16 = 0", "of 1 0 = 3");
        run("Promise 4: when it is empty; the TABLE, the ROW and how often stay",
                "! wipe", "comes 4 9", "best = 9", "put 4 = 1", "raw 5 3 = 4", "seek 2", "! wipe", "look 0 = 1",
                "look 1 = 0", "look 2 = 4", "look 3 = 2", "look 4 = 9", "code 4 = 0");
    }

    private static void make() {
        run("Promise 5: (The DRAFT stays in any case)",
                "count 2 2", "symbol 8..9", "make = 2", "! make = 2", "symbol 10 = 3", "! make = -1", "count 2 3",
                "make = 3", "look 1 = 3", "of 1 2 = 10");
        run("Promise 5: of no symbols it is right, too",
                "count 1 1", "symbol 8", "make = 1", "wipe", "make = 0", "look 0 = 0", "look 6 = 0", "of 0 1 = 0",
                "of 1 0 = -1", "length 8 = 0", "code 8 = -1", "! put 8 = " + ARGUMENT);
        run("Promise 5: a TABLE of fewer words leaves none of the one before",
                "count 8 255", "count 9 1", "symbol 0..255", "make = 256", "wipe", "count 3 1", "symbol 77", "make = 1",
                "look 0 = 1", "look 6 = 3", "of 0 8 = 0", "of 0 9 = 0", "of 1 0 = 77", "of 1 1 = -1", "length 0 = 0",
                "code 0 = -1", "length 255 = 0", "code 255 = -1", "code 77 = 0");
        run("Promise 5: the first of these: -1 ahead of -2 and -3",
                "count 1 3", "symbol 1", "symbol 1", "! make = -1", "count 1 1", "! make = -1");
        run("Promise 5: the first of these: -1 ahead of -3", "count 1 3", "symbol 1..2", "! make = -1");
        run("Promise 5: the first of these: -2 ahead of -3", "count 1 2", "symbol 1", "symbol 1", "! make = -2");
        run("Promise 5: else a fault: the TABLE stays",
                "comes 1..3 1", "best = 6", "count 1 2", "! make = -1", "symbol 5", "symbol 5", "! make = -2", "wipe",
                "count 1 2", "symbol 5..6", "! make = -3", "look 0 = 3", "of 1 0..2 = 1..3");
    }

    private static void comes() {
        run("Promise 6: (With n 0 nothing changes.)",
                "! comes 0 0 = 0", "! comes 255 0 = 0", "look 5 = 0", "comes 0 5 = 5", "! comes 0 0 = 5",
                "! comes 255 0 = 0", "look 4 = 5", "look 5 = 1", "comes 0 1 = 6", "look 4 = 6", "look 5 = 1");
        run("Promise 6: IllegalArgumentException if there is no such symbol",
                "! comes -1 1 = " + ARGUMENT, "! comes 256 1 = " + ARGUMENT, "! comes -1 0 = " + ARGUMENT,
                "! comes 256 0 = " + ARGUMENT, "! comes MIN 1 = " + ARGUMENT, "! comes MAX 1 = " + ARGUMENT,
                "comes 0 1 = 1", "comes 255 1 = 1");
        run("Promise 6: or n is below 0",
                "! comes 0 -1 = " + ARGUMENT, "! comes 255 MIN = " + ARGUMENT, "comes 0 3 = 3",
                "! comes 0 -1 = " + ARGUMENT, "! comes 0 -3 = " + ARGUMENT, "! comes 0 MIN = " + ARGUMENT, "look 4 = 3");
        run("Promise 6: IllegalStateException if all together would be more than 1000000",
                "comes 1 500000 = 500000", "! comes 2 500001 = " + STATE, "comes 2 499999 = 499999",
                "! comes 3 2 = " + STATE, "comes 3 1 = 1", "! comes 3 1 = " + STATE, "look 4 = 1000000", "look 5 = 3");
    }

    private static void forget() {
        run("Promise 7: No symbol has come: when none has", "! forget", "look 4 = 0", "look 5 = 0");
        run("Promise 7: No symbol has come: when as many have as can; the TABLE, the DRAFT and the ROW stay",
                "count 1 1", "symbol 9", "comes 0 400000", "comes 255 600000", "best = 1400000", "put 0 = 2", "seek 1",
                "forget", "look 4 = 0", "look 5 = 0", "comes 0 0 = 0", "comes 255 0 = 0", "look 0 = 2", "code 0 = 2",
                "look 1 = 1", "look 2 = 2", "look 3 = 1", "comes 7 1000000 = 1000000", "best = 1000000", "look 0 = 1",
                "length 0 = 0", "make = 1", "code 9 = 0");
    }

    private static void best() {
        run("Promise 8: without words if none has",
                "comes 5 3", "best = 3", "forget", "best = 0", "look 0 = 0", "look 6 = 0", "of 0 1..16 = 0",
                "of 1 0 = -1", "length 5 = 0", "code 5 = -1", "! put 5 = " + ARGUMENT);
        run("Promise 8: (draft, ROW and how often stay)",
                "count 4 2", "symbol 8..9", "raw 1234 16", "seek 3", "comes 5 3", "comes 6 4", "best = 10", "! best = 10",
                "look 1 = 2", "look 2 = 16", "look 3 = 3", "look 4 = 7", "look 5 = 2", "comes 5 0 = 3", "comes 6 0 = 4",
                "seek 0", "bits 16 = 1234", "make = 2", "length 8 = 4", "of 0 4 = 2", "best = 10", "of 0 4 = 0");
        run("Promise 8: how many bits all that has come has in it: as many as there can be",
                "comes 0..254 3906", "comes 255 3970", "best = 8003906", "look 6 = 9");
        run("Promise 8: a TABLE of fewer words leaves none of the one before",
                "comes 0..255 1", "best = 2049", "forget", "comes 9 2", "best = 2", "look 0 = 1", "look 6 = 1",
                "of 0 1 = 1", "of 0 8 = 0", "of 0 9 = 0", "of 1 1 = -1", "length 8 = 0", "code 10 = -1");
    }

    private static void wordOfSymbol() {
        run("Promise 9: 0 if it has none",
                "count 1 1", "count 16 1", "symbol 0", "symbol 255", "make = 2", "! length 0 = 1", "! length 255 = 16",
                "! length 1 = 0", "! length 254 = 0", "! length -1 = 0", "! length 256 = 0", "! length MIN = 0",
                "! length MAX = 0");
        run("Promise 10: NONE if it has none",
                "count 1 1", "count 16 1", "symbol 0", "symbol 255", "make = 2", "! code 0 = 0", "! code 255 = 32768",
                "! code 1 = -1", "! code 254 = -1", "! code -1 = -1", "! code 256 = -1", "! code MIN = -1",
                "! code MAX = -1");
        run("Promise 10: the greatest word", "count 1..16 1", "symbol 1..16", "make = 16", "code 16 = 65534");
    }

    private static void of() {
        run("Promise 11: What 0: the COUNT of length i, 1 .. 16 (the TABLE's, whatever the DRAFT has)",
                "count 1 1", "count 16 2", "symbol 5..7", "make = 3", "count 1 0", "count 2 7", "! of 0 1 = 1",
                "! of 0 2 = 0", "! of 0 15 = 0", "! of 0 16 = 2", "! of 0 0 = -1", "! of 0 17 = -1", "! of 0 -1 = -1",
                "! of 0 MIN = -1", "! of 0 MAX = -1");
        run("Promise 11: 1: symbol i of the TABLE, from 0 on (whatever the DRAFT has)",
                "count 2 3", "symbol 255", "symbol 0", "symbol 6", "make = 3", "symbol 9 = 4", "! of 1 0 = 255",
                "! of 1 1 = 0", "! of 1 2 = 6", "! of 1 3 = -1", "! of 1 -1 = -1", "! of 1 MIN = -1", "! of 1 MAX = -1",
                "wipe", "of 1 2 = 6", "make = 0", "! of 1 0 = -1");
        run("Promise 11: symbol 255 of the TABLE, and none behind it",
                "count 8 255", "count 9 1", "symbol 0..255", "make = 256", "! of 1 255 = 255", "! of 1 256 = -1");
        run("Promise 11: or no such what",
                "count 2 3", "symbol 5..7", "make = 3", "! of -1 1 = -1", "! of 2 1 = -1", "! of 2 0 = -1",
                "! of MIN 1 = -1", "! of MAX 1 = -1");
    }

    private static void put() {
        run("Promise 12: A symbol's word comes to the ROW: of one bit and of 16",
                "count 1 1", "count 16 1", "symbol 0", "symbol 255", "make = 2", "put 0 = 1", "put 255 = 17", "put 0 = 18",
                "look 3 = 0", "bits 1 = 0", "bits 16 = 32768", "bits 1 = 0", "! bits 1 = -1");
        run("Promise 12: IllegalArgumentException if it has none",
                "count 1 1", "symbol 4", "make = 1", "put 4 = 1", "! put 3 = " + ARGUMENT, "! put 5 = " + ARGUMENT,
                "! put 0 = " + ARGUMENT, "! put 255 = " + ARGUMENT, "! put -1 = " + ARGUMENT, "! put 256 = " + ARGUMENT,
                "! put MIN = " + ARGUMENT, "! put MAX = " + ARGUMENT, "look 2 = 1");
        run("Promise 12: a symbol that stands in the DRAFT alone, or has come, has none",
                "count 1 1", "symbol 4", "comes 5 1", "! put 4 = " + ARGUMENT, "! put 5 = " + ARGUMENT, "make = 1",
                "put 4 = 1", "! put 5 = " + ARGUMENT, "best = 1", "! put 4 = " + ARGUMENT, "put 5 = 2");
    }

    private static void raw() {
        run("Promise 13: n bits of v, 0 .. 16",
                "! raw -1 0 = 0", "! raw 0 0 = 0", "raw -1 1 = 1", "raw 0 1 = 2", "raw -1 16 = 18", "raw 0 16 = 34",
                "bits 1 = 1", "bits 1 = 0", "bits 16 = 65535", "bits 16 = 0", "! bits 1 = -1");
        run("Promise 13: the highest first (of its lowest n)",
                "raw 2 1 = 1", "raw 3 1 = 2", "raw 65536 16 = 18", "raw 32769 16 = 34", "raw MIN 16 = 50",
                "raw MAX 16 = 66", "raw 6 3 = 69", "raw 8 3 = 72", "bits 2 = 1", "bits 16 = 0", "bits 1 = 1",
                "14 * bits 1 = 0", "bits 1 = 1", "bits 16 = 0", "bits 16 = 65535", "bits 1 = 1", "bits 1 = 1",
                "bits 1 = 0", "bits 3 = 0");
        run("Promise 13: IllegalArgumentException if n is not as said",
                "! raw 1 -1 = " + ARGUMENT, "! raw 1 17 = " + ARGUMENT, "! raw 1 MIN = " + ARGUMENT,
                "! raw 1 MAX = " + ARGUMENT, "! raw 1 32 = " + ARGUMENT, "raw 1 16 = 16", "! raw 1 17 = " + ARGUMENT,
                "! raw 1 -1 = " + ARGUMENT, "look 2 = 16");
    }

    private static void get() {
        run("Promise 14: -1 (also if PLACE is its end, whatever the TABLE): the empty ROW",
                "! get = -1", "count 1 1", "symbol 4", "make = 1", "! get = -1", "count 1 0", "count 16 1", "make = 1",
                "! get = -1");
        run("Promise 14: -1 (also if PLACE is its end, whatever the TABLE): the end of a ROW",
                "raw 0 5", "seek 5", "! get = -1", "count 1 1", "symbol 4", "make = 1", "! get = -1", "seek 4", "get = 4",
                "look 3 = 5", "! get = -1", "wipe", "make = 0", "! get = -1", "seek 4", "! get = -2");
        for (int n = 2; n <= 16; n++) {
            run("Promise 14: -1 if the ROW ends ahead of the end of a word, of " + n + " bits",
                    "count " + n + " 1", "symbol 4", "make = 1", "raw 0 1 = 1", "! get = -1",
                    "raw 0 " + (n - 2) + " = " + (n - 1), "! get = -1", "raw 0 1 = " + n, "get = 4", "look 3 = " + n,
                    "! get = -1");
        }
        run("Promise 14: -2 if none of the TABLE's words stands there: one bit alone",
                "raw 1 1", "! get = -2", "count 1 1", "symbol 4", "make = 1", "! get = -2", "count 1 0", "count 16 1",
                "make = 1", "! get = -2", "raw 0 1", "seek 1", "! get = -1");
        run("Promise 14: -2: bits that begin no word, though fewer than any word has",
                "count 16 3", "symbol 4..6", "make = 3", "raw 0 13", "! get = -1", "raw 1 1", "! get = -2", "cut 13",
                "raw 1 2", "! get = -1", "raw 0 1", "get = 6", "seek 0", "cut 15", "raw 1 1", "! get = -2", "look 3 = 0");
        run("Promise 14: the bits that are there, up to 16, begin no word",
                "count 1..16 1", "symbol 1..16", "make = 16", "raw -1 15", "! get = -1", "raw 1 1", "! get = -2",
                "raw 0 1", "! get = -2", "look 3 = 0", "seek 1", "get = 16", "look 3 = 17", "! get = -1");
        run("Promise 14: PLACE is behind it: of the least and of the greatest symbol",
                "count 2 2", "symbol 0", "symbol 255", "make = 2", "raw 4 4", "! raw 0 0 = 4", "seek 1", "! get = -2",
                "seek 2", "get = 0", "look 3 = 4", "seek 0", "cut 0", "raw 1 2", "raw 0 1", "get = 255", "look 3 = 2",
                "! get = -1");
        run("Promise 14: a word that stands at the very end of the ROW, and a longer one that would go beyond it",
                "count 1 1", "count 3 1", "symbol 8..9", "make = 2", "raw 8 5", "get = 8", "get = 9", "get = 8",
                "look 3 = 5", "! get = -1", "raw 1 1", "! get = -1", "raw 0 1", "! get = -1", "cut 6", "raw 1 1",
                "! get = -2", "look 3 = 5");
    }

    private static void bits() {
        run("Promise 15: n bits, 0 .. 16",
                "raw -1 16", "raw 1 4", "! bits 0 = 0", "bits 16 = 65535", "look 3 = 16", "! bits 0 = 0", "bits 1 = 0",
                "bits 3 = 1", "look 3 = 20", "! bits 0 = 0");
        run("Promise 15: NONE if there are fewer",
                "! bits 1 = -1", "raw 21845 15", "! bits 16 = -1", "bits 15 = 21845", "! bits 1 = -1", "seek 14",
                "! bits 2 = -1", "bits 1 = 1", "look 3 = 15");
        run("Promise 15: or n is not as said",
                "raw -1 16", "raw -1 16", "! bits -1 = -1", "! bits 17 = -1", "! bits MIN = -1", "! bits MAX = -1",
                "seek 8", "! bits -1 = -1", "! bits 17 = -1", "look 3 = 8", "bits 16 = 65535");
    }

    private static void seek() {
        run("Promise 16: false if p is below 0 or above the length of the ROW: the empty ROW",
                "! seek 0 = true", "! seek 1 = false", "! seek -1 = false", "! seek MIN = false", "! seek MAX = false");
        run("Promise 16: false if p is below 0 or above the length of the ROW",
                "raw 6 3", "seek 3 = true", "look 3 = 3", "! seek 4 = false", "! seek -1 = false", "seek 1 = true",
                "! seek 4 = false", "! seek -1 = false", "! seek MIN = false", "! seek MAX = false", "look 3 = 1",
                "bits 2 = 2", "seek 0 = true", "look 3 = 0", "bits 3 = 6");
        run("Promise 16: the length of the ROW when it has been cut",
                "raw 6 3", "cut 2", "! seek 3 = false", "seek 2 = true", "look 3 = 2");
    }

    private static void cut() {
        run("Promise 17: false if it has fewer, or n is below 0: the empty ROW",
                "! cut 0 = true", "! cut 1 = false", "! cut -1 = false", "! cut MIN = false", "! cut MAX = false");
        run("Promise 17: false if it has fewer, or n is below 0",
                "raw 45 6", "seek 4", "! cut 6 = true", "! cut 7 = false", "! cut -1 = false", "! cut MIN = false",
                "! cut MAX = false", "cut 5 = true", "look 2 = 5", "! cut 6 = false", "seek 0", "bits 5 = 22");
        run("Promise 17: PLACE is the least of it and n",
                "raw 45 6", "seek 4", "cut 5 = true", "look 3 = 4", "cut 4 = true", "look 3 = 4", "cut 3 = true",
                "look 3 = 3", "seek 1", "cut 2 = true", "look 3 = 1", "cut 0 = true", "look 3 = 0", "look 2 = 0");
        run("Promise 17: The ROW has its first n bits alone: what stood behind them does not come back",
                "raw -1 16", "raw -1 16", "raw -1 16", "cut 1 = true", "raw 0 16 = 17", "raw 0 16 = 33", "bits 1 = 1",
                "bits 16 = 0", "bits 16 = 0", "! bits 1 = -1", "cut 0 = true", "raw 2 2 = 2", "bits 2 = 2");
    }

    private static void look() {
        run("Promise 18: NONE for any other which",
                "! look -1 = -1", "! look 7 = -1", "! look MIN = -1", "! look MAX = -1", "comes 4 5", "best", "put 4",
                "! look -1 = -1", "! look 7 = -1");
        run("Promise 18: each which, when all differ",
                "count 1 1", "count 6 2", "symbol 1..3", "make = 3", "symbol 4 = 4", "raw 0 9", "seek 5", "comes 4 20",
                "comes 5 7", "comes 6 0", "! look 0 = 3", "! look 1 = 4", "! look 2 = 9", "! look 3 = 5", "! look 4 = 27",
                "! look 5 = 2", "! look 6 = 6");
        run("Promise 18: each which, as great as can be",
                "symbol 0..255", "count 8 255", "count 9 1", "make = 256", "look 0 = 256", "look 1 = 256", "look 6 = 9");
        run("Promise 18: the greatest length of a word (0 without any)",
                "look 6 = 0", "count 16 1", "symbol 1", "make = 1", "look 6 = 16", "count 16 0", "count 1 1", "make = 1",
                "look 6 = 1", "wipe", "make = 0", "look 6 = 0");
    }

    public static void main(String[] args) {
        codeWords();
        draft();
        right();
        allOnes();
        firstTable();
        howOften();
        bestOfFew();
        bestOfLongWords();
        bestOfDeepest();
        row();
        fullRow();
        newObject();
        count();
        symbol();
        wipe();
        make();
        comes();
        forget();
        best();
        wordOfSymbol();
        of();
        put();
        raw();
        get();
        bits();
        seek();
        cut();
        look();
        System.out.println(wrong == 0 ? "all answers are as due" : wrong + " answers are not as due");
        if (wrong != 0) {
            System.exit(1);
        }
    }
}
