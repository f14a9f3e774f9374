import java.util.Arrays;

/** For each promise: ordinary inputs, the edges that the document names, and wrong inputs. */
public final class HuffForgePromises {
    private static final long ARGUMENT = Long.MIN_VALUE;
    private static final long STATE = Long.MIN_VALUE + 1;
    private static final int[] EDGES = {Integer.MIN_VALUE, -65536, -257, -2, -1, 256, 257, 65536, Integer.MAX_VALUE};

    private static int wrong = 0;
    private static String promise = "";

    private interface Call {
        long answer();
    }

    private static void due(String call, long want, Call made) {
        String got;
        try {
            long answer = made.answer();
            if (answer == want) {
                return;
            }
            got = String.valueOf(answer);
        } catch (RuntimeException e) {
            if (want == ARGUMENT && e.getClass() == IllegalArgumentException.class
                    || want == STATE && e.getClass() == IllegalStateException.class) {
                return;
            }
            got = e.toString();
        }
        wrong++;
        String due = want == ARGUMENT ? "IllegalArgumentException" : want == STATE ? "IllegalStateException" : "" + want;
        System.out.println(promise + ": " + call + " answered " + got + ", due is " + due);
    }

    private static void yes(String call, boolean got) {
        due(call, 1, () -> got ? 1 : 0);
    }

    private static void no(String call, boolean got) {
        due(call, 0, () -> got ? 1 : 0);
    }

    /** All that can be seen of an object without changing it for good. */
    private static String state(HuffForge x) {
        StringBuilder told = new StringBuilder();
        for (int which = 0; which <= 6; which++) {
            told.append(x.look(which)).append(' ');
        }
        for (int n = 1; n <= 16; n++) {
            told.append(x.of(0, n)).append(' ');
        }
        for (int i = 0; i < x.look(0); i++) {
            told.append(x.of(1, i)).append(' ');
        }
        for (int s = 0; s < 256; s++) {
            told.append(x.length(s)).append('/').append(x.code(s)).append('/').append(x.comes(s, 0)).append(' ');
        }
        return told.append(rowOf(x)).toString();
    }

    private static String rowOf(HuffForge x) {
        int place = x.look(3);
        StringBuilder told = new StringBuilder();
        x.seek(0);
        for (int bit = x.bits(1); bit != HuffForge.NONE; bit = x.bits(1)) {
            told.append(bit);
        }
        x.seek(place);
        return told.toString();
    }

    private static void same(String what, String got, String want) {
        if (!got.equals(want)) {
            wrong++;
            System.out.println(promise + ": " + what + " is " + got + ", due is " + want);
        }
    }

    private static HuffForge made(int[] counts, int... symbols) {
        HuffForge x = new HuffForge();
        draft(x, counts, symbols);
        due("make() of " + Arrays.toString(counts), symbols.length, x::make);
        return x;
    }

    private static void draft(HuffForge x, int[] counts, int... symbols) {
        x.wipe();
        for (int n = 1; n <= counts.length; n++) {
            x.count(n, counts[n - 1]);
        }
        for (int s : symbols) {
            x.symbol(s);
        }
    }

    private static int[] upTo(int n) {
        int[] symbols = new int[n];
        for (int s = 0; s < n; s++) {
            symbols[s] = s;
        }
        return symbols;
    }

    private static void newObject() {
        promise = "1";
        HuffForge x = new HuffForge();
        due("NONE", -1, () -> HuffForge.NONE);
        for (int which = 0; which <= 6; which++) {
            int w = which;
            due("look(" + w + ")", 0, () -> x.look(w));
        }
        for (int s = 0; s < 256; s++) {
            int t = s;
            due("length(" + s + ")", 0, () -> x.length(t));
            due("code(" + s + ")", -1, () -> x.code(t));
        }
        HuffForge y = new HuffForge();
        y.comes(7, 3);
        y.best();
        y.put(7);
        y.symbol(7);
        due("look(2) of another object", 0, () -> x.look(2));
        due("make() of no symbols", 0, x::make);
    }

    private static void count() {
        promise = "2";
        HuffForge x = new HuffForge();
        for (int e : EDGES) {
            no("count(" + e + ", 1)", x.count(e, 1));
            no("count(1, " + e + ")", x.count(1, e));
        }
        no("count(0, 1)", x.count(0, 1));
        no("count(17, 1)", x.count(17, 1));
        due("make() after wrong counts", 0, x::make);
        yes("count(16, 255)", x.count(16, 255));
        due("make() after count(16, 255)", -1, x::make);
        yes("count(16, 0)", x.count(16, 0));
        due("make() after count(16, 0)", 0, x::make);
        yes("count(1, 0)", x.count(1, 0));
        yes("count(16, 1)", x.count(16, 1));
        due("of(0, 16) ahead of make", 0, () -> x.of(0, 16));
        x.symbol(9);
        no("count(16, 256)", x.count(16, 256));
        no("count(16, -1)", x.count(16, -1));
        due("make()", 1, x::make);
        due("length(9)", 16, () -> x.length(9));
    }

    private static void symbol() {
        promise = "3";
        HuffForge x = new HuffForge();
        for (int e : EDGES) {
            due("symbol(" + e + ")", -1, () -> x.symbol(e));
        }
        due("look(1)", 0, () -> x.look(1));
        for (int i = 0; i < 256; i++) {
            int s = i % 2 == 0 ? 0 : 255;
            due("symbol(" + s + ")", i + 1, () -> x.symbol(s));
        }
        due("symbol(3) with 256 there", -1, () -> x.symbol(3));
        due("look(1)", 256, () -> x.look(1));
    }

    private static void wipe() {
        promise = "4";
        HuffForge x = made(new int[] {1, 1}, 4, 5);
        x.raw(1, 3);
        x.seek(2);
        x.comes(1, 1);
        String before = state(x);
        x.wipe();
        due("look(1)", 0, () -> x.look(1));
        x.symbol(1);
        x.symbol(1);
        same("the state but for the draft", state(x), before);
        x.wipe();
        due("make()", 0, x::make);
        due("look(0)", 0, () -> x.look(0));
        due("length(4)", 0, () -> x.length(4));
    }

    private static void make() {
        promise = "5";
        HuffForge x = made(new int[] {0, 1, 2, 0, 3}, 200, 0, 255, 3, 2, 1);
        due("code(200)", 0, () -> x.code(200));
        due("code(0)", 2, () -> x.code(0));
        due("code(255)", 3, () -> x.code(255));
        due("code(3)", 16, () -> x.code(3));
        due("code(1)", 18, () -> x.code(1));
        due("length(1)", 5, () -> x.length(1));
        String before = state(x);
        x.symbol(4);
        same("the state with one more symbol in the draft", state(x), before.replaceFirst("^6 6 ", "6 7 "));
        due("make() with too few counts", -1, x::make);
        x.count(1, 2);
        due("make() with too many counts", -1, x::make);
        x.wipe();
        due("make() of nothing", 0, x::make);
        due("look(0)", 0, () -> x.look(0));
        due("look(1)", 0, () -> x.look(1));
    }

    private static void makeFaults() {
        promise = "5, faults";
        HuffForge x = made(new int[] {1}, 77);
        String before = state(x);
        draft(x, new int[] {3}, 1, 1);
        due("make(), three faults", -1, x::make);
        draft(x, new int[] {2}, 1, 1);
        due("make(), two faults", -2, x::make);
        draft(x, new int[] {2}, 1, 2);
        due("make(), all 1s", -3, x::make);
        draft(x, new int[] {1, 2}, 1, 2, 3);
        due("make(), all 1s in two bits", -3, x::make);
        draft(x, new int[] {1, 1, 1, 2}, 1, 2, 3, 4, 5);
        due("make(), all 1s in four bits", -3, x::make);
        draft(x, new int[] {3, 0, 1}, 1, 2, 3, 4);
        due("make(), more than all 1s", -3, x::make);
        draft(x, new int[] {0, 0, 0, 0, 0, 0, 0, 255, 2}, upTo(256));
        due("make(), counts together 257", -1, x::make);
        draft(x, new int[] {255, 1}, upTo(256));
        due("make(), 255 of one bit", -3, x::make);
        x.wipe();
        same("the state after faults", state(x), before.replaceFirst("^1 1 ", "1 0 "));

        HuffForge full = made(new int[] {0, 0, 0, 0, 0, 0, 0, 255, 1}, upTo(256));
        due("code(254)", 254, () -> full.code(254));
        due("code(255)", 510, () -> full.code(255));
        due("make() again", 256, full::make);
        int[] ladder = new int[16];
        Arrays.fill(ladder, 1);
        HuffForge deep = made(ladder, upTo(16));
        due("code(15)", 65534, () -> deep.code(15));
        ladder[15] = 2;
        draft(deep, ladder, upTo(17));
        due("make(), all 1s in 16 bits", -3, deep::make);
        draft(deep, new int[] {0, 0, 0, 0, 0, 0, 0, 255, 0, 1}, upTo(256));
        due("make(), first of ten bits behind 255 of eight", 256, deep::make);
        due("code(255)", 1020, () -> deep.code(255));
        draft(deep, new int[] {2}, 0, 0);
        due("make(), symbol 0 twice", -2, deep::make);
        draft(deep, new int[] {0, 2}, 255, 255);
        due("make(), symbol 255 twice", -2, deep::make);
        draft(deep, new int[] {0, 2}, 255, 254);
        due("make(), after symbols twice", 2, deep::make);
    }

    private static void comes() {
        promise = "6";
        HuffForge x = new HuffForge();
        for (int e : EDGES) {
            due("comes(" + e + ", 0)", ARGUMENT, () -> x.comes(e, 0));
            due("comes(" + e + ", 1000001)", ARGUMENT, () -> x.comes(e, 1000001));
        }
        due("comes(1, -1)", ARGUMENT, () -> x.comes(1, -1));
        due("comes(1, least)", ARGUMENT, () -> x.comes(1, Integer.MIN_VALUE));
        due("comes(1, 1000001)", STATE, () -> x.comes(1, 1000001));
        due("comes(1, greatest)", STATE, () -> x.comes(1, Integer.MAX_VALUE));
        due("look(4)", 0, () -> x.look(4));
        due("comes(0, 400000)", 400000, () -> x.comes(0, 400000));
        due("comes(255, 599999)", 599999, () -> x.comes(255, 599999));
        due("comes(255, 2)", STATE, () -> x.comes(255, 2));
        due("comes(255, greatest)", STATE, () -> x.comes(255, Integer.MAX_VALUE));
        due("comes(0, 1)", 400001, () -> x.comes(0, 1));
        due("comes(7, 0) of all full", 0, () -> x.comes(7, 0));
        due("comes(0, 0) of all full", 400001, () -> x.comes(0, 0));
        due("comes(7, 1) of all full", STATE, () -> x.comes(7, 1));
        due("comes(7, -1) of all full", ARGUMENT, () -> x.comes(7, -1));
        due("look(4)", 1000000, () -> x.look(4));
        due("look(5)", 2, () -> x.look(5));
        due("best()", 599999 + 2 * 400001, x::best);
    }

    private static void forget() {
        promise = "7";
        HuffForge x = made(new int[] {1, 1}, 4, 5);
        x.put(4);
        String before = state(x);
        x.comes(3, 1000000);
        x.forget();
        same("the state", state(x), before);
        due("look(4)", 0, () -> x.look(4));
        due("comes(3, 1000000)", 1000000, () -> x.comes(3, 1000000));
    }

    private static HuffForge bestOf(int[] symbols, int[] numbers, long want) {
        HuffForge x = new HuffForge();
        for (int i = 0; i < symbols.length; i++) {
            x.comes(symbols[i], numbers[i]);
        }
        due("best() of " + Arrays.toString(numbers), want, x::best);
        return x;
    }

    private static void best() {
        promise = "8";
        HuffForge one = bestOf(new int[] {9}, new int[] {1000000}, 1000000);
        due("code(9)", 0, () -> one.code(9));
        due("look(0)", 1, () -> one.look(0));

        HuffForge two = bestOf(new int[] {3, 200}, new int[] {1, 1}, 3);
        due("length(3)", 1, () -> two.length(3));
        due("length(200)", 2, () -> two.length(200));
        due("code(200)", 2, () -> two.code(200));

        int[] ones = new int[256];
        Arrays.fill(ones, 1);
        HuffForge all = bestOf(upTo(256), ones, 255 * 8 + 9);
        due("of(0, 8)", 255, () -> all.of(0, 8));
        due("of(0, 9)", 1, () -> all.of(0, 9));
        due("length(255)", 9, () -> all.length(255));
        due("code(255)", 510, () -> all.code(255));
        due("code(254)", 254, () -> all.code(254));

        draft(all, new int[] {1}, 50);
        all.raw(5, 3);
        all.seek(1);
        due("best() again", 255 * 8 + 9, all::best);
        same("the row", rowOf(all), "101");
        due("look(1)", 1, () -> all.look(1));
        due("look(3)", 1, () -> all.look(3));
        due("look(4)", 256, () -> all.look(4));
        due("make()", 1, all::make);
        due("length(50)", 1, () -> all.length(50));
        due("length(255)", 0, () -> all.length(255));
        all.forget();
        due("best() of none", 0, all::best);
        due("look(0)", 0, () -> all.look(0));
        due("code(50)", -1, () -> all.code(50));
    }

    private static void bestOfLongWords() {
        promise = "8, long words";
        // Each number is twice the one before: the tree is one chain, 19 deep.
        int[] twofold = new int[19];
        for (int i = 0; i < 19; i++) {
            twofold[i] = 1 << i;
        }
        // The document's steps done on paper, from 1 word each of 1 .. 18 bits and 2 of 19:
        // 19: {17:1, 18:1, 19:2} -> {17:0, 18:4}; 18: J 16 -> {16:0, 17:3, 18:2}; J 15 -> {15:0, 16:2, 17:4, 18:0};
        // 17: J 14 -> {14:0, 15:2, 16:3, 17:2}; J 15 -> {15:1, 16:6, 17:0}; one of 16 goes: 5.
        long want = 0;
        int[] lengths = {16, 16, 16, 16, 16, 15, 13, 12, 11, 10, 9, 8, 7, 6, 5, 4, 3, 2, 1};
        for (int i = 0; i < 19; i++) {
            want += (long) lengths[i] * twofold[i];
        }
        HuffForge x = bestOf(upTo(19), twofold, want);
        due("of(0, 16)", 5, () -> x.of(0, 16));
        due("of(0, 15)", 1, () -> x.of(0, 15));
        due("of(0, 14)", 0, () -> x.of(0, 14));
        for (int n = 1; n <= 13; n++) {
            int length = n;
            due("of(0, " + n + ")", 1, () -> x.of(0, length));
        }
        for (int s = 0; s < 19; s++) {
            int t = s;
            due("length(" + s + ")", lengths[s], () -> x.length(t));
            due("of(1, " + s + ")", 18 - s, () -> x.of(1, t));
        }
        due("look(6)", 16, () -> x.look(6));
        due("code(0)", 65534, () -> x.code(0));
    }

    private static void lengthAndCode() {
        HuffForge x = made(new int[] {1, 0, 2}, 255, 0, 128);
        promise = "9";
        due("length(255)", 1, () -> x.length(255));
        due("length(0)", 3, () -> x.length(0));
        due("length(128)", 3, () -> x.length(128));
        due("length(1)", 0, () -> x.length(1));
        for (int e : EDGES) {
            due("length(" + e + ")", 0, () -> x.length(e));
        }
        promise = "10";
        due("code(255)", 0, () -> x.code(255));
        due("code(0)", 4, () -> x.code(0));
        due("code(128)", 5, () -> x.code(128));
        due("code(1)", -1, () -> x.code(1));
        for (int e : EDGES) {
            due("code(" + e + ")", -1, () -> x.code(e));
        }
    }

    private static void of() {
        promise = "11";
        HuffForge x = made(new int[] {1, 0, 2}, 255, 0, 128);
        x.count(3, 9);
        x.count(16, 4);
        x.symbol(44);
        due("of(0, 0)", -1, () -> x.of(0, 0));
        due("of(0, 1)", 1, () -> x.of(0, 1));
        due("of(0, 2)", 0, () -> x.of(0, 2));
        due("of(0, 3), the TABLE's", 2, () -> x.of(0, 3));
        due("of(0, 16), the TABLE's", 0, () -> x.of(0, 16));
        due("of(0, 17)", -1, () -> x.of(0, 17));
        due("of(1, 0)", 255, () -> x.of(1, 0));
        due("of(1, 1)", 0, () -> x.of(1, 1));
        due("of(1, 2)", 128, () -> x.of(1, 2));
        due("of(1, 3)", -1, () -> x.of(1, 3));
        for (int e : EDGES) {
            due("of(0, " + e + ")", -1, () -> x.of(0, e));
            due("of(1, " + e + ")", -1, () -> x.of(1, e));
            due("of(" + e + ", 1)", -1, () -> x.of(e, 1));
        }
        due("of(2, 1)", -1, () -> x.of(2, 1));
    }

    private static void put() {
        promise = "12";
        HuffForge x = made(new int[] {1, 0, 2}, 255, 0, 128);
        for (int e : EDGES) {
            due("put(" + e + ")", ARGUMENT, () -> x.put(e));
        }
        due("put(1)", ARGUMENT, () -> x.put(1));
        due("put(128)", 3, () -> x.put(128));
        due("put(255)", 4, () -> x.put(255));
        due("put(0)", 7, () -> x.put(0));
        same("the row", rowOf(x), "1010100");
        due("look(3)", 0, () -> x.look(3));
    }

    private static void raw() {
        promise = "13";
        HuffForge x = new HuffForge();
        for (int e : EDGES) {
            due("raw(1, " + e + ")", ARGUMENT, () -> x.raw(1, e));
        }
        due("raw(1, 17)", ARGUMENT, () -> x.raw(1, 17));
        due("raw(-1, 0)", 0, () -> x.raw(-1, 0));
        due("raw(5, 4)", 4, () -> x.raw(5, 4));
        due("raw(-2, 3)", 7, () -> x.raw(-2, 3));
        due("raw(0x7fff0, 5)", 12, () -> x.raw(0x7fff0, 5));
        due("raw(0x18001, 16)", 28, () -> x.raw(0x18001, 16));
        due("raw(least, 16)", 44, () -> x.raw(Integer.MIN_VALUE, 16));
        same("the row", rowOf(x), "0101" + "110" + "10000" + "1000000000000001" + "0000000000000000");
    }

    /* The document's 512 calls can't fill the row; that its end holds all the same is our own care. */
    private static void fullRow() {
        promise = "12 and 13, a full row";
        HuffForge x = made(new int[] {1, 0, 1}, 1, 3);
        for (int i = 1; i < 4096; i++) {
            x.raw(0, 16);
        }
        x.raw(0, 13);
        due("look(2)", 65533, () -> x.look(2));
        due("raw(0, 4)", STATE, () -> x.raw(0, 4));
        due("raw(0, 17)", ARGUMENT, () -> x.raw(0, 17));
        due("raw(0, 1)", 65534, () -> x.raw(0, 1));
        due("put(3)", STATE, () -> x.put(3));
        due("put(2)", ARGUMENT, () -> x.put(2));
        due("put(1)", 65535, () -> x.put(1));
        due("raw(1, 1)", 65536, () -> x.raw(1, 1));
        due("raw(1, 0)", 65536, () -> x.raw(1, 0));
        due("raw(1, 1)", STATE, () -> x.raw(1, 1));
        due("put(1)", STATE, () -> x.put(1));
        yes("seek(65536)", x.seek(65536));
        no("seek(65537)", x.seek(65537));
        due("get()", -1, x::get);
        yes("seek(65535)", x.seek(65535));
        due("bits(2)", -1, () -> x.bits(2));
        due("bits(1)", 1, () -> x.bits(1));
        no("cut(65537)", x.cut(65537));
        yes("cut(65536)", x.cut(65536));
    }

    private static void get() {
        promise = "14";
        HuffForge x = new HuffForge();
        due("get() of nothing", -1, x::get);
        x.raw(0, 1);
        due("get() with no words", -2, x::get);
        draft(x, new int[] {1, 0, 2}, 255, 0, 128);
        x.make();
        x.raw(0b101_100_11, 8);
        due("get()", 255, x::get);
        due("look(3)", 1, () -> x.look(3));
        due("get()", 128, x::get);
        due("get()", 0, x::get);
        due("look(3)", 7, () -> x.look(3));
        due("get() of 11, which begins no word", -2, x::get);
        due("look(3)", 7, () -> x.look(3));
        x.cut(8);
        due("get() of 1, which begins words", -1, x::get);
        due("look(3)", 7, () -> x.look(3));
        x.raw(0, 1);
        due("get() of 10, which begins words", -1, x::get);
        x.raw(1, 1);
        due("get() of 101", 128, x::get);
        due("get() at the end", -1, x::get);
        x.raw(-1, 16);
        x.raw(-1, 16);
        due("get() of 32 times 1", -2, x::get);
        x.wipe();
        x.make();
        due("get() with no words left", -2, x::get);
        x.seek(x.look(2));
        due("get() with no words left at the end", -1, x::get);
    }

    private static void getOfLongWords() {
        promise = "14, long words";
        int[] ladder = new int[16];
        Arrays.fill(ladder, 1);
        HuffForge x = made(ladder, upTo(16));
        x.raw(-2, 16);
        due("get() of 16 bits", 15, x::get);
        x.raw(-1, 15);
        due("get() of 15 times 1", -1, x::get);
        x.raw(1, 1);
        due("get() of 16 times 1", -2, x::get);
        x.raw(0, 1);
        due("get() of 16 times 1 and 0", -2, x::get);
        due("look(3)", 16, () -> x.look(3));
        x.seek(17);
        due("get() of 15 times 1 and 0", 15, x::get);
        for (int s = 0; s < 16; s++) {
            x.put(s);
        }
        for (int s = 0; s < 16; s++) {
            due("get()", s, x::get);
        }
    }

    private static void bits() {
        promise = "15";
        HuffForge x = new HuffForge();
        due("bits(0)", 0, () -> x.bits(0));
        due("bits(1)", -1, () -> x.bits(1));
        x.raw(0xabcd, 16);
        x.raw(0x5, 4);
        for (int e : EDGES) {
            due("bits(" + e + ")", -1, () -> x.bits(e));
        }
        due("bits(17)", -1, () -> x.bits(17));
        due("bits(3)", 5, () -> x.bits(3));
        due("look(3)", 3, () -> x.look(3));
        due("bits(16)", 0x5e6a, () -> x.bits(16));
        due("bits(2)", -1, () -> x.bits(2));
        due("look(3)", 19, () -> x.look(3));
        due("bits(1)", 1, () -> x.bits(1));
        due("bits(0) at the end", 0, () -> x.bits(0));
        due("bits(1) at the end", -1, () -> x.bits(1));
        x.seek(0);
        due("bits(16)", 0xabcd, () -> x.bits(16));
    }

    private static void seek() {
        promise = "16";
        HuffForge x = new HuffForge();
        yes("seek(0)", x.seek(0));
        no("seek(1)", x.seek(1));
        x.raw(2, 3);
        yes("seek(3)", x.seek(3));
        no("seek(4)", x.seek(4));
        no("seek(-1)", x.seek(-1));
        no("seek(least)", x.seek(Integer.MIN_VALUE));
        no("seek(greatest)", x.seek(Integer.MAX_VALUE));
        due("look(3)", 3, () -> x.look(3));
        yes("seek(1)", x.seek(1));
        due("bits(2)", 2, () -> x.bits(2));
    }

    private static void cut() {
        promise = "17";
        HuffForge x = new HuffForge();
        yes("cut(0)", x.cut(0));
        no("cut(1)", x.cut(1));
        x.raw(-1, 16);
        x.seek(9);
        no("cut(17)", x.cut(17));
        no("cut(-1)", x.cut(-1));
        no("cut(least)", x.cut(Integer.MIN_VALUE));
        no("cut(greatest)", x.cut(Integer.MAX_VALUE));
        due("look(2)", 16, () -> x.look(2));
        yes("cut(16)", x.cut(16));
        yes("cut(10)", x.cut(10));
        due("look(3)", 9, () -> x.look(3));
        yes("cut(4)", x.cut(4));
        due("look(3)", 4, () -> x.look(3));
        due("look(2)", 4, () -> x.look(2));
        due("raw(1, 3)", 7, () -> x.raw(1, 3));
        same("the row", rowOf(x), "1111001");
        yes("cut(0)", x.cut(0));
        due("look(3)", 0, () -> x.look(3));
    }

    private static void look() {
        promise = "18";
        HuffForge x = made(new int[] {1, 0, 2}, 255, 0, 128);
        x.symbol(1);
        x.raw(0, 9);
        x.seek(5);
        x.comes(4, 20);
        x.comes(5, 7);
        x.comes(6, 0);
        int[] want = {3, 4, 9, 5, 27, 2, 3};
        for (int which = 0; which <= 6; which++) {
            int w = which;
            due("look(" + w + ")", want[w], () -> x.look(w));
        }
        due("look(7)", -1, () -> x.look(7));
        for (int e : EDGES) {
            due("look(" + e + ")", -1, () -> x.look(e));
        }
        HuffForge deep = made(new int[] {0, 0, 0, 0, 0, 0, 0, 0, 0, 0, 0, 0, 0, 0, 0, 1}, 1);
        due("look(6)", 16, () -> deep.look(6));
        due("code(1)", 0, () -> deep.code(1));
    }

    public static void main(String[] args) {
        newObject();
        count();
        symbol();
        wipe();
        make();
        makeFaults();
        comes();
        forget();
        best();
        bestOfLongWords();
        lengthAndCode();
        of();
        put();
        raw();
        fullRow();
        get();
        getOfLongWords();
        bits();
        seek();
        cut();
        look();
        System.out.println(wrong == 0 ? "all answers are as due" : wrong + " answers are not as due");
        if (wrong != 0) {
            System.exit(1);
        }
    }
}
