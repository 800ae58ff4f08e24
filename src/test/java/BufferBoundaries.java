/** The sentences of promises 65 to 71, a method for each promise. */
final class BufferBoundaries extends Boundaries {
    private static final int[] NO_BUFFERS = {-1, 3, 4, MIN, MAX};
    private static final long TWO_32 = 1L << 32;

    static void run() {
        createBuffer();
        createAnswers();
        writeBuffer();
        readBuffer();
        copyBuffer();
        copyAnswers();
        exportClosures();
        firstDifference();
        randomClosureSum();
        randomAnswers();
    }

    /** All three buffers, of byte, int and long, with 1, 2, 3 .. as elements. */
    private static HornRuleWorkbench withBuffers(int size) {
        HornRuleWorkbench w = new HornRuleWorkbench();
        for (int buffer = 0; buffer < 3; buffer++) {
            w.createBuffer(buffer, buffer, size);
            for (int i = 0; i < size; i++) {
                w.writeBuffer(buffer, i, i + 1);
            }
        }
        return w;
    }

    private static void dueElements(String what, HornRuleWorkbench w, int buffer, long... want) {
        for (int i = 0; i < want.length; i++) {
            due(what + ", element " + i, w.readBuffer(buffer, i), want[i]);
        }
        due(what + ", the end", w.readBuffer(buffer, want.length), NO_VALUE);
    }

    private static void dueType(String what, HornRuleWorkbench w, int buffer, int type) {
        w.writeBuffer(buffer, 0, TWO_32 + 456);
        long[] want = {(byte) 456, 456, TWO_32 + 456};
        due(what + ", type", w.readBuffer(buffer, 0), want[type]);
    }

    private static void createBuffer() {
        says(65, "Creates a buffer whose elements are all 0.");
        for (int type = 0; type < 3; type++) {
            HornRuleWorkbench w = new HornRuleWorkbench();
            w.createBuffer(type, type, 64);
            dueElements("64 elements", w, type, new long[64]);
            w.writeBuffer(type, 0, -1);
            w.writeBuffer(type, 63, -1);
            w.createBuffer(type, type, 64);
            dueElements("made again", w, type, new long[64]);
        }

        says(65, "An existing buffer with this number is replaced.");
        for (int buffer = 0; buffer < 3; buffer++) {
            HornRuleWorkbench w = withBuffers(4);
            w.createBuffer(buffer, 2 - buffer, 2);
            dueElements("fewer elements", w, buffer, 0, 0);
            dueType("another type", w, buffer, 2 - buffer);
            w.createBuffer(buffer, 0, 0);
            dueElements("no elements", w, buffer);
            w.createBuffer(buffer, 1, 5);
            dueElements("more elements", w, buffer, 0, 0, 0, 0, 0);
            dueElements("the next one stays", w, (buffer + 1) % 3, 1, 2, 3, 4);
            dueElements("the one after stays", w, (buffer + 2) % 3, 1, 2, 3, 4);
        }

        says(65, "`buffer`: the number of the buffer, 0 to 2");
        HornRuleWorkbench w = new HornRuleWorkbench();
        dueEach("buffer", buffer -> w.createBuffer(buffer, 1, 1), 1, 0, 1, 2);
        dueEach("buffer", buffer -> w.createBuffer(buffer, 1, 1), BAD_ARGUMENT, -1, 3);

        says(65, "`type`: the element type, 0 to 2");
        dueEach("type", type -> w.createBuffer(1, type, 1), 1, 0, 1, 2);
        dueEach("type", type -> w.createBuffer(1, type, 1), BAD_ARGUMENT, -1, 3);

        says(65, "`size`: the number of elements, 0 to 64");
        dueEach("size", size -> w.createBuffer(1, 1, size), 1, 0, 1, 63, 64);
        due("the 64th", w.readBuffer(1, 63), 0);
        due("no 65th", w.readBuffer(1, 64), NO_VALUE);
        due("size 65", w.createBuffer(1, 1, 65), BAD_ARGUMENT);
        due("size -1", w.createBuffer(1, 1, -1), NEGATIVE_SIZE);
        w.createBuffer(1, 1, 0);
        due("no element", w.readBuffer(1, 0), NO_VALUE);
        due("but it exists", w.writeBuffer(1, 0, 1), OUT_OF_BOUNDS);
    }

    private static void createAnswers() {
        says(65, "Returns 1; BAD_ARGUMENT if the buffer number or the type is out of range or the size is greater than"
                + " 64 (checked first); NEGATIVE_SIZE if the size is negative, in which case an existing buffer"
                + " stays.");
        HornRuleWorkbench w = withBuffers(2);
        due("all right", w.createBuffer(0, 0, 2), 1);
        for (int size : new int[] {0, 1, 64, 65, MAX, -1, MIN}) {
            dueEach("buffer", buffer -> w.createBuffer(buffer, 1, size), BAD_ARGUMENT, NO_BUFFERS);
            dueEach("type", type -> w.createBuffer(1, type, size), BAD_ARGUMENT, NO_BUFFERS);
        }
        dueEach("size", size -> w.createBuffer(1, 0, size), BAD_ARGUMENT, 65, 66, 128, MAX);
        dueElements("the buffer stays", w, 1, 1, 2);
        dueEach("size", size -> w.createBuffer(1, 0, size), NEGATIVE_SIZE, -1, -2, -64, MIN);
        dueElements("the buffer stays", w, 1, 1, 2);
        dueType("so does its type", w, 1, 1);
        HornRuleWorkbench u = new HornRuleWorkbench();
        u.createBuffer(0, 0, -1);
        due("a missing buffer stays missing", u.firstDifference(0), MISSING_BUFFER);
    }

    private static void writeBuffer() {
        says(66, "Sets an element of a buffer to the low-order bits of a value, as a cast to the element type does.");
        HornRuleWorkbench w = withBuffers(3);
        long[] values = {0, 127, 128, 255, 256, -1, -128, -129, 1L << 31, (1L << 31) - 1, -(1L << 31),
            -(1L << 31) - 1, TWO_32, TWO_32 - 1, Long.MAX_VALUE, Long.MIN_VALUE, Long.MIN_VALUE + 1};
        long[] bytes = {0, 127, -128, -1, 0, -1, -128, 127, 0, -1, 0, -1, 0, -1, -1, 0, 1};
        long[] ints = {0, 127, 128, 255, 256, -1, -128, -129, MIN, MAX, MIN, MAX, 0, -1, -1, 0, 1};
        for (int i = 0; i < values.length; i++) {
            for (int buffer = 0; buffer < 3; buffer++) {
                w.writeBuffer(buffer, 1, values[i]);
            }
            dueElements("byte " + values[i], w, 0, 1, bytes[i], 3);
            dueElements("int " + values[i], w, 1, 1, ints[i], 3);
            dueElements("long " + values[i], w, 2, 1, values[i], 3);
        }

        says(66, "Returns 1; BAD_ARGUMENT if the buffer number is out of range (checked first); MISSING_BUFFER if the"
                + " buffer is missing (checked second); OUT_OF_BOUNDS if there is no such position.");
        HornRuleWorkbench u = new HornRuleWorkbench();
        for (int position : new int[] {0, 63, 64, -1, MIN, MAX}) {
            dueEach("no buffer", buffer -> u.writeBuffer(buffer, position, 1), BAD_ARGUMENT, NO_BUFFERS);
            dueEach("missing", buffer -> u.writeBuffer(buffer, position, 1), MISSING_BUFFER, 0, 1, 2);
        }
        u.createBuffer(0, 0, 0);
        u.createBuffer(1, 1, 1);
        u.createBuffer(2, 2, 64);
        dueEach("no elements", position -> u.writeBuffer(0, position, 1), OUT_OF_BOUNDS, 0, 1, -1, 63, MIN, MAX);
        dueEach("one element", position -> u.writeBuffer(1, position, 1), OUT_OF_BOUNDS, 1, -1, 63, MIN, MAX);
        dueEach("64 elements", position -> u.writeBuffer(2, position, 1), OUT_OF_BOUNDS, 64, -1, MIN, MAX);
        due("the only one", u.writeBuffer(1, 0, 1), 1);
        due("the first of 64", u.writeBuffer(2, 0, 1), 1);
        due("the last of 64", u.writeBuffer(2, 63, 1), 1);
    }

    private static void readBuffer() {
        says(67, "Returns the element; NO_VALUE if the buffer number is out of range, the buffer is missing, or there is"
                + " no such position.");
        HornRuleWorkbench w = withBuffers(64);
        for (int buffer = 0; buffer < 3; buffer++) {
            due("the first", w.readBuffer(buffer, 0), 1);
            due("the last", w.readBuffer(buffer, 63), 64);
            for (int position : new int[] {-1, 64, MIN, MAX}) {
                due("position " + position, w.readBuffer(buffer, position), NO_VALUE);
                due("missing", new HornRuleWorkbench().readBuffer(buffer, position), NO_VALUE);
            }
            due("missing", new HornRuleWorkbench().readBuffer(buffer, 0), NO_VALUE);
        }
        for (int buffer : NO_BUFFERS) {
            due("buffer " + buffer, w.readBuffer(buffer, 0), NO_VALUE);
            due("buffer and position " + buffer, w.readBuffer(buffer, -1), NO_VALUE);
        }
        w.createBuffer(0, 0, 0);
        due("no elements", w.readBuffer(0, 0), NO_VALUE);
    }

    private static void copyBuffer() {
        says(68, "Copies elements of one buffer to another one, or within one buffer, as System.arraycopy does.");
        HornRuleWorkbench w = withBuffers(5);
        w.createBuffer(0, 1, 4);
        w.copyBuffer(1, 2, 0, 1, 3);
        dueElements("to another", w, 0, 0, 3, 4, 5);
        dueElements("the source stays", w, 1, 1, 2, 3, 4, 5);
        w.copyBuffer(1, 0, 1, 1, 4);
        dueElements("up within one", w, 1, 1, 1, 2, 3, 4);
        w.copyBuffer(2, 1, 2, 0, 4);
        dueElements("down within one", w, 2, 2, 3, 4, 5, 5);
        w.copyBuffer(2, 0, 2, 0, 5);
        dueElements("onto itself", w, 2, 2, 3, 4, 5, 5);
        w.copyBuffer(0, 0, 1, 0, 0);
        dueElements("nothing", w, 1, 1, 1, 2, 3, 4);

        says(68, "`target`: the number of the target buffer, which may be the source");
        for (int buffer = 0; buffer < 3; buffer++) {
            HornRuleWorkbench u = withBuffers(2);
            due("within one", u.copyBuffer(buffer, 0, buffer, 1, 1), 1);
            dueElements("within one", u, buffer, 1, 1);
        }
    }

    private static void copyAnswers() {
        says(68, "Returns the count; BAD_ARGUMENT if a buffer number is out of range (checked first); MISSING_BUFFER if"
                + " either buffer is missing (checked second); TYPE_MISMATCH if the element types differ (checked"
                + " third); OUT_OF_BOUNDS if the count or a position is negative or the range does not fit into"
                + " either buffer.");
        HornRuleWorkbench w = new HornRuleWorkbench();
        w.createBuffer(0, 0, 64);
        w.createBuffer(1, 1, 64);
        for (int count : new int[] {0, 1, -1, 65, MIN, MAX}) {
            dueEach("source", source -> w.copyBuffer(source, 0, 0, 0, count), BAD_ARGUMENT, NO_BUFFERS);
            dueEach("target", target -> w.copyBuffer(0, 0, target, 0, count), BAD_ARGUMENT, NO_BUFFERS);
            dueEach("target, source missing", t -> w.copyBuffer(2, 0, t, 0, count), BAD_ARGUMENT, NO_BUFFERS);
            dueEach("source, target missing", s -> w.copyBuffer(s, 0, 2, 0, count), BAD_ARGUMENT, NO_BUFFERS);
            due("source missing", w.copyBuffer(2, 0, 0, 0, count), MISSING_BUFFER);
            due("target missing", w.copyBuffer(0, 0, 2, 0, count), MISSING_BUFFER);
            due("both missing", w.copyBuffer(2, 0, 2, 0, count), MISSING_BUFFER);
            due("an int source, target missing", w.copyBuffer(1, 0, 2, 0, count), MISSING_BUFFER);
            due("an int target, source missing", w.copyBuffer(2, 0, 1, 0, count), MISSING_BUFFER);
            due("byte to int", w.copyBuffer(0, 0, 1, 0, count), TYPE_MISMATCH);
            due("int to byte", w.copyBuffer(1, 0, 0, 0, count), TYPE_MISMATCH);
        }
        due("two types and a wrong position", w.copyBuffer(1, -1, 0, 65, 1), TYPE_MISMATCH);
        w.createBuffer(1, 0, 3);
        due("the whole", w.copyBuffer(0, 0, 0, 0, 64), 64);
        due("to the end of both", w.copyBuffer(0, 61, 1, 0, 3), 3);
        due("nothing at the ends", w.copyBuffer(0, 64, 1, 3, 0), 0);
        due("nothing beyond the source", w.copyBuffer(0, 65, 1, 3, 0), OUT_OF_BOUNDS);
        due("nothing beyond the target", w.copyBuffer(0, 64, 1, 4, 0), OUT_OF_BOUNDS);
        due("one too many in the source", w.copyBuffer(0, 62, 1, 0, 3), OUT_OF_BOUNDS);
        due("one too many in the target", w.copyBuffer(0, 0, 1, 1, 3), OUT_OF_BOUNDS);
        due("65", w.copyBuffer(0, 0, 0, 0, 65), OUT_OF_BOUNDS);
        dueEach("count", count -> w.copyBuffer(0, 1, 1, 1, count), OUT_OF_BOUNDS, -1, MIN, MAX, MAX - 1);
        dueEach("source position", p -> w.copyBuffer(0, p, 1, 0, 1), OUT_OF_BOUNDS, -1, 64, MIN, MAX);
        dueEach("target position", p -> w.copyBuffer(0, 0, 1, p, 1), OUT_OF_BOUNDS, -1, 3, MIN, MAX);
        dueEach("no count, source", p -> w.copyBuffer(0, p, 1, 0, 0), OUT_OF_BOUNDS, -1, MIN, MAX);
        dueEach("no count, target", p -> w.copyBuffer(0, 0, 1, p, 0), OUT_OF_BOUNDS, -1, MIN, MAX);
        due("sums that wrap around", w.copyBuffer(0, MAX, 1, MAX, MAX), OUT_OF_BOUNDS);
    }

    private static void exportClosures() {
        says(69, "Replaces a buffer by one with 2^n elements, in which element k is the closure of set k.");
        for (int n = 1; n <= 6; n++) {
            for (int type = 0; type < 3; type++) {
                HornRuleWorkbench w = with(n, 0, 1);
                w.createBuffer(type, 2 - type, 64);
                w.writeBuffer(type, 63, 99);
                w.exportClosures(type, type);
                long[] want = new long[1 << n];
                for (int set = 0; set < want.length; set++) {
                    want[set] = set | 1;
                }
                dueElements("n is " + n, w, type, want);
                dueType("n is " + n, w, type, type);
            }
        }
        HornRuleWorkbench small = with(6, 1, 62);
        small.createBuffer(0, 0, 0);
        small.exportClosures(0, 0);
        due("in place of an empty one", small.readBuffer(0, 1), 63);

        says(69, "`type`: the element type, 0 to 2");
        HornRuleWorkbench u = with(1);
        dueEach("type", type -> u.exportClosures(0, type), 2, 0, 1, 2);
        dueEach("type", type -> u.exportClosures(0, type), BAD_ARGUMENT, -1, 3);

        says(69, "Returns the number of elements, or BAD_ARGUMENT if the buffer number or the type is out of range.");
        for (int n = 1; n <= 6; n++) {
            HornRuleWorkbench v = with(n);
            dueEach("buffer", buffer -> v.exportClosures(buffer, 1), BAD_ARGUMENT, NO_BUFFERS);
            dueEach("type", type -> v.exportClosures(1, type), BAD_ARGUMENT, NO_BUFFERS);
            due("none came of it", v.firstDifference(1), MISSING_BUFFER);
            dueEach("exportClosures", buffer -> v.exportClosures(buffer, 1), 1 << n, 0, 1, 2);
        }
    }

    private static void firstDifference() {
        says(70, "Compares a buffer with the closures of the sets 0, 1, 2 and so on.");
        HornRuleWorkbench w = with(6, 1, 62);
        w.exportClosures(2, 2);
        for (int position = 63; position >= 0; position--) {
            w.writeBuffer(2, position, TWO_32 + w.closure(position));
            due("another value at " + position, w.firstDifference(2), position);
        }
        w.exportClosures(0, 0);
        w.setEnabled(0, 0);
        due("the rules changed", w.firstDifference(0), 1);

        says(70, "Elements at positions of 2^n or more are ignored, and so are sets for which the buffer has no"
                + " element.");
        HornRuleWorkbench u = with(2);
        u.createBuffer(0, 1, 64);
        for (int i = 0; i < 4; i++) {
            u.writeBuffer(0, i, i);
        }
        due("0 at position 4 and beyond", u.firstDifference(0), NONE);
        u.writeBuffer(0, 3, 0);
        due("0 at position 3", u.firstDifference(0), 3);
        u.createBuffer(0, 1, 0);
        due("no element at all", u.firstDifference(0), NONE);
        u.createBuffer(0, 1, 1);
        due("an element for the empty set alone", u.firstDifference(0), NONE);
        u.createBuffer(0, 1, 2);
        due("a wrong second element", u.firstDifference(0), 1);

        says(70, "Returns the lowest position at which the element is not the closure of the set with that number; NONE"
                + " if there is no difference; BAD_ARGUMENT if the buffer number is out of range (checked first);"
                + " MISSING_BUFFER if the buffer is missing (checked second).");
        for (int n = 1; n <= 6; n++) {
            HornRuleWorkbench v = with(n);
            dueEach("no buffer", v::firstDifference, BAD_ARGUMENT, NO_BUFFERS);
            dueEach("missing", v::firstDifference, MISSING_BUFFER, 0, 1, 2);
            v.exportClosures(1, 1);
            due("no difference", v.firstDifference(1), NONE);
            v.writeBuffer(1, (1 << n) - 1, -1);
            due("at the last position", v.firstDifference(1), (1 << n) - 1);
            v.writeBuffer(1, 0, -1);
            due("at the first and the last", v.firstDifference(1), 0);
        }
    }

    private static void randomClosureSum() {
        says(71, "Draws pseudo-random sets and adds up the numbers of attributes in their closures.");
        // with seed 1 the first sets of six attributes are 6, 62, 1 and 43
        HornRuleWorkbench w = with(6);
        due("6", w.randomClosureSum(1, 1), 2);
        due("6 and 62", w.randomClosureSum(2, 1), 7);
        due("6, 62 and 1", w.randomClosureSum(3, 1), 8);
        due("6, 62, 1 and 43", w.randomClosureSum(4, 1), 12);
        w.addRule(1, 62);
        due("the closure of 1 is full", w.randomClosureSum(3, 1), 13);
        w.addRule(0, 63);
        due("all closures are full", w.randomClosureSum(20, 1), 120);

        says(71, "The generator has an int state, which is the seed at first.");
        HornRuleWorkbench u = with(6);
        due("seed 1", u.randomClosureSum(1, 1), 2);
        due("seed 1 again: the state is not kept", u.randomClosureSum(1, 1), 2);
        due("seed -1: 57", u.randomClosureSum(1, -1), 4);
        due("seed 0: 0", u.randomClosureSum(1, 0), 0);

        says(71, "Each draw replaces the state by `state * 1103515245 + 12345` in int arithmetic; the set is"
                + " `((state & 0x7fffffff) / 65536) % (1 << n)`.");
        int[] seeds = {0, 1, -1, MAX, MIN, 123456789};
        int[][] sums = {{1, 10, 12, 11, 11, 10, 12}, {4, 44, 46, 45, 45, 44, 46}, {6, 65, 69, 69, 69, 65, 63}};
        for (int[] row : sums) {
            HornRuleWorkbench v = with(row[0]);
            for (int i = 0; i < seeds.length; i++) {
                due("n is " + row[0] + ", seed " + seeds[i], v.randomClosureSum(20, seeds[i]), row[i + 1]);
            }
        }
    }

    private static void randomAnswers() {
        says(71, "`count`: the number of sets, 1 to 20");
        HornRuleWorkbench w = with(6, 0, 63);
        due("1", w.randomClosureSum(1, 5), 6);
        due("20", w.randomClosureSum(20, 5), 120);
        dueEach("count", count -> w.randomClosureSum(count, 5), BAD_ARGUMENT, 0, 21);

        says(71, "Returns the sum, or BAD_ARGUMENT if the count is out of range.");
        due("the least sum", with(1).randomClosureSum(1, 0), 0);
        for (int seed : new int[] {0, 1, -1, MIN, MAX}) {
            dueEach("count", c -> w.randomClosureSum(c, seed), BAD_ARGUMENT, 0, -1, 21, 22, -20, MIN, MAX);
            due("the greatest sum", w.randomClosureSum(20, seed), 120);
        }
    }
}
