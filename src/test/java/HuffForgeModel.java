import java.util.ArrayList;
import java.util.Arrays;
import java.util.Comparator;
import java.util.HashSet;
import java.util.List;
import java.util.Random;
import java.util.TreeMap;

/**
 * Runs of 512 calls drawn by a fixed seed, each answer held against a slow model that follows the
 * document's words by texts of 0s and 1s, and shares no line with the program.
 */
public final class HuffForgeModel {
    private static final int RUNS = 1500;
    private static final int CALLS = 512;

    /** A group of places, as the document's BEST TABLE has them. */
    private record Group(int place, long number, List<Integer> members) { }

    private static final class Model {
        int[] draftCounts = new int[17];
        List<Integer> draftSymbols = new ArrayList<>();
        int[] counts = new int[17];
        List<Integer> symbols = new ArrayList<>();
        TreeMap<Integer, String> words = new TreeMap<>();
        int[] often = new int[256];
        StringBuilder row = new StringBuilder();
        int place = 0;

        /** Null if a word would be all 1s or more. */
        static List<String> wordsOf(int[] counts) {
            List<String> all = new ArrayList<>();
            long before = -1;
            int bitsBefore = 0;
            for (int n = 1; n <= 16; n++) {
                for (int k = 0; k < counts[n]; k++) {
                    before = all.isEmpty() ? 0 : (before + 1) << (n - bitsBefore);
                    bitsBefore = n;
                    String text = Long.toBinaryString(before);
                    if (text.length() > n || text.equals("1".repeat(n))) {
                        return null;
                    }
                    all.add("0".repeat(n - text.length()) + text);
                }
            }
            return all;
        }

        void setTable(int[] newCounts, List<Integer> newSymbols) {
            counts = Arrays.copyOf(newCounts, 17);
            symbols = new ArrayList<>(newSymbols);
            words.clear();
            List<String> all = wordsOf(counts);
            for (int i = 0; i < symbols.size(); i++) {
                words.put(symbols.get(i), all.get(i));
            }
        }

        long make() {
            if (Arrays.stream(draftCounts).sum() != draftSymbols.size()) {
                return -1;
            }
            if (new HashSet<>(draftSymbols).size() != draftSymbols.size()) {
                return -2;
            }
            if (wordsOf(draftCounts) == null) {
                return -3;
            }
            setTable(draftCounts, draftSymbols);
            return symbols.size();
        }

        int[] bitsOfPlaces() {
            int[] bits = new int[257];
            List<Group> groups = new ArrayList<>();
            for (int p = 0; p <= 256; p++) {
                long number = p == 256 ? 1 : often[p];
                if (number > 0) {
                    groups.add(new Group(p, number, List.of(p)));
                }
            }
            Comparator<Group> order = Comparator.comparingLong(Group::number)
                    .thenComparing(Comparator.comparingInt(Group::place).reversed());
            while (groups.size() >= 2) {
                groups.sort(order);
                Group a = groups.remove(0);
                Group b = groups.remove(0);
                List<Integer> both = new ArrayList<>(a.members());
                both.addAll(b.members());
                both.forEach(p -> bits[p]++);
                groups.add(new Group(a.place(), a.number() + b.number(), both));
            }
            return bits;
        }

        static void doAway(int[] byLength) {
            for (int l = 256; l > 16; l--) {
                while (byLength[l] > 0) {
                    int j = l - 2;
                    while (byLength[j] == 0) {
                        j--;
                    }
                    byLength[l] -= 2;
                    byLength[l - 1] += 1;
                    byLength[j + 1] += 2;
                    byLength[j] -= 1;
                }
            }
        }

        long best() {
            int[] byLength = new int[257];
            List<Integer> order = new ArrayList<>();
            if (Arrays.stream(often).sum() > 0) {
                int[] bits = bitsOfPlaces();
                for (int p = 0; p <= 256; p++) {
                    if (bits[p] > 0) {
                        byLength[bits[p]]++;
                    }
                    if (p < 256 && bits[p] > 0) {
                        order.add(p);
                    }
                }
                order.sort(Comparator.comparingInt(s -> bits[s]));
                doAway(byLength);
                int greatest = 16;
                while (byLength[greatest] == 0) {
                    greatest--;
                }
                byLength[greatest]--;
            }
            setTable(byLength, order);
            long sum = 0;
            for (int s : symbols) {
                sum += (long) often[s] * words.get(s).length();
            }
            return sum;
        }

        long get() {
            String ahead = row.substring(place);
            if (ahead.isEmpty()) {
                return -1;
            }
            boolean begins = false;
            for (int s : symbols) {
                if (ahead.startsWith(words.get(s))) {
                    place += words.get(s).length();
                    return s;
                }
                begins |= words.get(s).startsWith(ahead);
            }
            return begins ? -1 : -2;
        }

        long bits(int n) {
            if (n < 0 || n > 16 || place + n > row.length()) {
                return -1;
            }
            place += n;
            return n == 0 ? 0 : Long.parseLong(row.substring(place - n, place), 2);
        }

        long comes(int s, int n) {
            if (s < 0 || s > 255 || n < 0) {
                throw new IllegalArgumentException();
            }
            if (n + Arrays.stream(often).asLongStream().sum() > 1000000) {
                throw new IllegalStateException();
            }
            return often[s] += n;
        }

        long append(String bits) {
            if (row.length() + bits.length() > 65536) {
                throw new IllegalStateException();
            }
            return row.append(bits).length();
        }

        long put(int s) {
            if (!words.containsKey(s)) {
                throw new IllegalArgumentException();
            }
            return append(words.get(s));
        }

        long raw(int v, int n) {
            if (n < 0 || n > 16) {
                throw new IllegalArgumentException();
            }
            String all = Integer.toBinaryString(v);
            all = "0".repeat(32 - all.length()) + all;
            return append(all.substring(32 - n));
        }

        long look(int which) {
            return switch (which) {
                case 0 -> words.size();
                case 1 -> draftSymbols.size();
                case 2 -> row.length();
                case 3 -> place;
                case 4 -> Arrays.stream(often).sum();
                case 5 -> Arrays.stream(often).filter(n -> n > 0).count();
                case 6 -> words.values().stream().mapToInt(String::length).max().orElse(0);
                default -> -1;
            };
        }

        long of(int what, int i) {
            if (what == 0) {
                return i >= 1 && i <= 16 ? counts[i] : -1;
            }
            return what == 1 && i >= 0 && i < symbols.size() ? symbols.get(i) : -1;
        }

        long call(String name, int a, int b) {
            switch (name) {
                case "count":
                    if (a < 1 || a > 16 || b < 0 || b > 255) {
                        return 0;
                    }
                    draftCounts[a] = b;
                    return 1;
                case "symbol":
                    if (a < 0 || a > 255 || draftSymbols.size() == 256) {
                        return -1;
                    }
                    draftSymbols.add(a);
                    return draftSymbols.size();
                case "wipe":
                    draftCounts = new int[17];
                    draftSymbols.clear();
                    return 0;
                case "make": return make();
                case "comes": return comes(a, b);
                case "forget":
                    often = new int[256];
                    return 0;
                case "best": return best();
                case "length": return words.getOrDefault(a, "").length();
                case "code": return words.containsKey(a) ? Long.parseLong(words.get(a), 2) : -1;
                case "of": return of(a, b);
                case "put": return put(a);
                case "raw": return raw(a, b);
                case "get": return get();
                case "bits": return bits(a);
                case "seek":
                    if (a < 0 || a > row.length()) {
                        return 0;
                    }
                    place = a;
                    return 1;
                case "cut":
                    if (a < 0 || a > row.length()) {
                        return 0;
                    }
                    row.setLength(a);
                    place = Math.min(place, a);
                    return 1;
                default: return look(a);
            }
        }
    }

    private static long call(HuffForge x, String name, int a, int b) {
        switch (name) {
            case "count": return x.count(a, b) ? 1 : 0;
            case "symbol": return x.symbol(a);
            case "wipe":
                x.wipe();
                return 0;
            case "make": return x.make();
            case "comes": return x.comes(a, b);
            case "forget":
                x.forget();
                return 0;
            case "best": return x.best();
            case "length": return x.length(a);
            case "code": return x.code(a);
            case "of": return x.of(a, b);
            case "put": return x.put(a);
            case "raw": return x.raw(a, b);
            case "get": return x.get();
            case "bits": return x.bits(a);
            case "seek": return x.seek(a) ? 1 : 0;
            case "cut": return x.cut(a) ? 1 : 0;
            default: return x.look(a);
        }
    }

    /** One run: an object and its model, and the manner in which this run draws its calls. */
    private static final class Run {
        private final int number;
        private final Random random;
        private final HuffForge x = new HuffForge();
        private final Model model = new Model();
        private final int manner;
        private int calls = 0;
        private boolean wrong = false;

        Run(int number) {
            this.number = number;
            random = new Random(number);
            manner = number % 5;
        }

        private void step(String name, int a, int b) {
            if (wrong || calls == CALLS) {
                return;
            }
            calls++;
            String want = answer(() -> model.call(name, a, b));
            String got = answer(() -> call(x, name, a, b));
            if (!got.equals(want)) {
                wrong = true;
                System.out.println("run " + number + ", call " + calls + ": " + name + "(" + a + ", " + b + ") answered "
                        + got + ", due is " + want);
            }
        }

        private interface Call {
            long answer();
        }

        private static String answer(Call made) {
            try {
                return String.valueOf(made.answer());
            } catch (IllegalArgumentException | IllegalStateException e) {
                return e.getClass().getName();
            }
        }

        private int upTo(int bound) {
            return random.nextInt(bound);
        }

        /** Mostly 0 .. bound - 1, at times just beside it or far off. */
        private int near(int bound) {
            int odd = upTo(40);
            return odd == 0 ? -1 : odd == 1 ? bound : odd == 2 ? random.nextInt() : upTo(bound);
        }

        private int aSymbol() {
            if (!model.symbols.isEmpty() && upTo(4) > 0) {
                return model.symbols.get(upTo(model.symbols.size()));
            }
            return near(256);
        }

        /** Numbers that grow so that the tree gets deep, or that are all alike so that ties decide. */
        private void someCome() {
            int kinds = 1 + upTo(manner == 1 ? 256 : 30);
            double growth = 1 + random.nextDouble() * 1.1;
            double number = 1;
            for (int i = 0; i < kinds; i++) {
                int n = manner == 2 ? 1 + upTo(3) : manner == 1 ? upTo(50) : (int) Math.min(number, 500000);
                step("comes", manner == 3 ? i : upTo(256), n);
                number = manner == 3 ? number * growth : number * 1.62 + upTo(2);
            }
            step("best", 0, 0);
        }

        private void aDraft() {
            step("wipe", 0, 0);
            int all = 0;
            long room = 1;
            for (int n = 1; n <= 16; n++) {
                room = room * 2;
                int k = (int) Math.min(upTo(3) == 0 ? upTo(1 + (int) Math.min(room, 60)) : 0, 256 - all);
                room -= upTo(25) == 0 ? 0 : Math.min(k, room - 1);
                step("count", n, k);
                all += k;
            }
            int first = upTo(256);
            int jump = 1 + 2 * upTo(128);
            int slip = upTo(15) == 0 ? 1 : 0;
            for (int i = 0; i < all - slip; i++) {
                step("symbol", upTo(300) == 0 ? first : (first + i * jump) % 256, 0);
            }
            step("make", 0, 0);
        }

        private void oneCall() {
            int rowBits = model.row.length();
            switch (upTo(18)) {
                case 0: step("count", near(17), near(256)); break;
                case 1: step("symbol", near(256), 0); break;
                case 2: step(upTo(10) == 0 ? "wipe" : "make", 0, 0); break;
                case 3: step("comes", near(256), upTo(8) == 0 ? near(1000001) : near(100)); break;
                case 4: step(upTo(10) == 0 ? "forget" : "best", 0, 0); break;
                case 5: step("length", aSymbol(), 0); break;
                case 6: step("code", aSymbol(), 0); break;
                case 7: step("of", near(2), upTo(2) == 0 ? near(17) : near(256)); break;
                case 8: case 9: case 10: step("put", aSymbol(), 0); break;
                case 11: step("raw", random.nextInt(), near(17)); break;
                case 12: case 13: case 14: step("get", 0, 0); break;
                case 15: step("bits", near(17), 0); break;
                case 16: step("seek", near(rowBits + 1), 0); break;
                default: step("cut", upTo(3) == 0 ? near(rowBits + 1) : Math.max(0, rowBits - upTo(20)), 0); break;
            }
        }

        private void lookAtAll() {
            for (int which = -1; which <= 7; which++) {
                step("look", which, 0);
            }
            for (int n = 0; n <= 17; n++) {
                step("of", 0, n);
            }
            for (int i = 0; i < 4; i++) {
                int s = aSymbol();
                step("length", s, 0);
                step("code", s, 0);
                step("of", 1, near(model.symbols.size() + 1));
            }
        }

        boolean isWrong() {
            for (int round = 0; calls < CALLS && !wrong; round++) {
                if (manner == 0 ? upTo(8) == 0 : round == 0) {
                    aDraft();
                }
                if (manner != 0 && upTo(4) == 0) {
                    step("forget", 0, 0);
                    someCome();
                }
                for (int i = 0; i < 40; i++) {
                    oneCall();
                }
                lookAtAll();
            }
            return wrong;
        }
    }

    public static void main(String[] args) {
        int wrong = 0;
        for (int run = 1; run <= RUNS; run++) {
            if (new Run(run).isWrong()) {
                wrong++;
            }
        }
        System.out.println(wrong == 0 ? "all answers are as due" : wrong + " runs are not as due");
        if (wrong != 0) {
            System.exit(1);
        }
    }
}
