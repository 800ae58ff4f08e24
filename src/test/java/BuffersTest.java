/** Promises 65 to 71: buffers, exported closures and the sum over random sets. */
public final class BuffersTest {
    private static final int MIN = Integer.MIN_VALUE;
    private static final int MAX = Integer.MAX_VALUE;

    public static void main(String[] args) {
        createBuffer();
        writeAndRead();
        copyErrors();
        copies();
        exportClosures();
        firstDifference();
        randomClosureSum();
        Due.end();
    }

    private static void due(String call, long got, long want) {
        Due.due(call, got, want);
    }

    private static void createBuffer() {
        HornRuleWorkbench w = new HornRuleWorkbench();
        for (int bad : new int[] {-1, 3, MIN, MAX}) {
            due("65 buffer " + bad, w.createBuffer(bad, 0, 1), -5);
            due("65 type " + bad, w.createBuffer(0, bad, 1), -5);
            due("65 BAD_ARGUMENT before NEGATIVE_SIZE", w.createBuffer(bad, 0, -1), -5);
            due("65 BAD_ARGUMENT before NEGATIVE_SIZE", w.createBuffer(0, bad, -1), -5);
        }
        due("65 size 65", w.createBuffer(0, 0, 65), -5);
        due("65 size MAX", w.createBuffer(0, 0, MAX), -5);
        due("65 size -1", w.createBuffer(0, 0, -1), -14);
        due("65 size MIN", w.createBuffer(0, 0, MIN), -14);
        due("65 it is still missing", w.writeBuffer(0, 0, 1), -11);
        due("65 size 64", w.createBuffer(0, 0, 64), 1);
        due("65 the last element", w.readBuffer(0, 63), 0);
        w.writeBuffer(0, 0, 7);
        due("65 a negative size", w.createBuffer(0, 2, -1), -14);
        due("65 the buffer stays", w.readBuffer(0, 0), 7);
        due("65 a wrong size", w.createBuffer(0, 2, 65), -5);
        due("65 the buffer stays", w.readBuffer(0, 0), 7);
        due("65 replaced", w.createBuffer(0, 2, 2), 1);
        due("65 all 0", w.readBuffer(0, 0), 0);
        due("65 two elements", w.readBuffer(0, 2), Long.MIN_VALUE);
        w.writeBuffer(0, 1, Long.MAX_VALUE);
        due("65 of type long", w.readBuffer(0, 1), Long.MAX_VALUE);
        due("65 size 0", w.createBuffer(0, 1, 0), 1);
        due("65 no element", w.writeBuffer(0, 0, 1), -13);
        due("65 again with two", w.createBuffer(0, 2, 2), 1);
        due("65 the old elements are gone", w.readBuffer(0, 1), 0);
    }

    private static void writeAndRead() {
        HornRuleWorkbench w = new HornRuleWorkbench();
        w.createBuffer(0, 0, 2);
        w.createBuffer(1, 1, 2);
        long[] values = {0, 127, 128, 255, 256, -129, 3000000000L, -3000000000L, 1L << 40,
            Long.MIN_VALUE, Long.MAX_VALUE};
        for (long value : values) {
            due("66 byte " + value, w.writeBuffer(0, 1, value), 1);
            due("67 byte " + value, w.readBuffer(0, 1), (byte) value);
            due("66 int " + value, w.writeBuffer(1, 1, value), 1);
            due("67 int " + value, w.readBuffer(1, 1), (int) value);
        }
        due("66 the other element stays", w.readBuffer(0, 0), 0);
        for (int bad : new int[] {-1, 3, MIN, MAX}) {
            due("66 buffer " + bad, w.writeBuffer(bad, 0, 1), -5);
            due("66 BAD_ARGUMENT first", w.writeBuffer(bad, -1, 1), -5);
            due("67 buffer " + bad, w.readBuffer(bad, 0), Long.MIN_VALUE);
        }
        due("66 MISSING_BUFFER before OUT_OF_BOUNDS", w.writeBuffer(2, -1, 1), -11);
        due("67 a missing buffer", w.readBuffer(2, 0), Long.MIN_VALUE);
        w.createBuffer(2, 2, 2);
        for (int bad : new int[] {-1, 2, MIN, MAX}) {
            due("66 position " + bad, w.writeBuffer(2, bad, 1), -13);
            due("67 position " + bad, w.readBuffer(2, bad), Long.MIN_VALUE);
        }
        for (long value : values) {
            due("66 long " + value, w.writeBuffer(2, 0, value), 1);
            due("67 long " + value, w.readBuffer(2, 0), value);
        }
    }

    private static void copyErrors() {
        HornRuleWorkbench w = new HornRuleWorkbench();
        w.createBuffer(0, 1, 4);
        due("68 source -1", w.copyBuffer(-1, 0, 0, 0, 1), -5);
        due("68 source 3", w.copyBuffer(3, 0, 0, 0, 1), -5);
        due("68 target -1", w.copyBuffer(0, 0, -1, 0, 1), -5);
        due("68 BAD_ARGUMENT before MISSING_BUFFER", w.copyBuffer(1, 0, 3, 0, 1), -5);
        due("68 a missing source", w.copyBuffer(1, 0, 0, 0, 1), -11);
        due("68 a missing target", w.copyBuffer(0, 0, 1, 0, 1), -11);
        due("68 MISSING_BUFFER before OUT_OF_BOUNDS", w.copyBuffer(0, -1, 1, 0, 1), -11);
        w.createBuffer(1, 2, 4);
        due("68 two types", w.copyBuffer(0, 0, 1, 0, 1), -12);
        due("68 two types, nothing to copy", w.copyBuffer(0, 0, 1, 0, 0), -12);
        due("68 TYPE_MISMATCH before OUT_OF_BOUNDS", w.copyBuffer(0, -1, 1, 0, 1), -12);
        w.createBuffer(2, 1, 2);
        due("68 source position -1", w.copyBuffer(0, -1, 2, 0, 1), -13);
        due("68 target position -1", w.copyBuffer(0, 0, 2, -1, 1), -13);
        due("68 count -1", w.copyBuffer(0, 0, 2, 0, -1), -13);
        due("68 too long for the target", w.copyBuffer(0, 0, 2, 0, 3), -13);
        due("68 too long for the source", w.copyBuffer(2, 0, 0, 0, 3), -13);
        due("68 count MAX", w.copyBuffer(0, 1, 2, 1, MAX), -13);
        due("68 source position MAX", w.copyBuffer(0, MAX, 2, 0, 1), -13);
        due("68 target position MAX", w.copyBuffer(0, 0, 2, MAX, 1), -13);
        due("68 nothing, but beyond the end", w.copyBuffer(0, 5, 2, 0, 0), -13);
        due("68 nothing, but beyond the end", w.copyBuffer(0, 0, 2, 3, 0), -13);
        due("68 nothing at the end", w.copyBuffer(0, 4, 2, 2, 0), 0);
    }

    private static HornRuleWorkbench withNumbers() {
        HornRuleWorkbench w = new HornRuleWorkbench();
        w.createBuffer(0, 0, 5);
        for (int i = 0; i < 5; i++) {
            w.writeBuffer(0, i, i + 1);
        }
        return w;
    }

    private static void dueElements(String what, HornRuleWorkbench w, int buffer, int... want) {
        for (int i = 0; i < want.length; i++) {
            due("68 " + what + ", element " + i, w.readBuffer(buffer, i), want[i]);
        }
        due("68 " + what + ", the end", w.readBuffer(buffer, want.length), Long.MIN_VALUE);
    }

    private static void copies() {
        HornRuleWorkbench w = withNumbers();
        w.createBuffer(1, 0, 3);
        due("68 to another", w.copyBuffer(0, 2, 1, 1, 2), 2);
        dueElements("to another", w, 1, 0, 3, 4);
        dueElements("the source", w, 0, 1, 2, 3, 4, 5);
        due("68 up within one", w.copyBuffer(0, 0, 0, 1, 4), 4);
        dueElements("up within one", w, 0, 1, 1, 2, 3, 4);
        w = withNumbers();
        due("68 down within one", w.copyBuffer(0, 1, 0, 0, 4), 4);
        dueElements("down within one", w, 0, 2, 3, 4, 5, 5);
    }

    private static void exportClosures() {
        HornRuleWorkbench w = new HornRuleWorkbench();
        w.reset(2);
        w.addRule(1, 2);
        due("69 buffer 3", w.exportClosures(3, 0), -5);
        due("69 buffer -1", w.exportClosures(-1, 0), -5);
        due("69 type 3", w.exportClosures(0, 3), -5);
        due("69 type -1", w.exportClosures(0, -1), -5);
        due("69 it is still missing", w.firstDifference(0), -11);
        for (int type = 0; type < 3; type++) {
            due("69 type " + type, w.exportClosures(type, type), 4);
            dueElements("69 export", w, type, 0, 3, 2, 3);
        }
        w.writeBuffer(0, 0, 300);
        due("69 type byte", w.readBuffer(0, 0), 44);
        w.writeBuffer(1, 0, 1L << 32);
        due("69 type int", w.readBuffer(1, 0), 0);
        w.writeBuffer(2, 0, 1L << 32);
        due("69 type long", w.readBuffer(2, 0), 1L << 32);
        w.addRule(0, 1);
        w.exportClosures(0, 1);
        dueElements("69 nothing implies a", w, 0, 3, 3, 3, 3);
        w.reset(6);
        due("69 64 elements", w.exportClosures(0, 0), 64);
        due("69 the last", w.readBuffer(0, 63), 63);
    }

    private static void firstDifference() {
        HornRuleWorkbench w = new HornRuleWorkbench();
        w.reset(2);
        w.addRule(1, 2);
        due("70 buffer 3", w.firstDifference(3), -5);
        due("70 buffer -1", w.firstDifference(-1), -5);
        due("70 a missing buffer", w.firstDifference(1), -11);
        w.createBuffer(0, 2, 0);
        due("70 no elements", w.firstDifference(0), -2);
        w.createBuffer(0, 2, 1);
        due("70 one element", w.firstDifference(0), -2);
        w.createBuffer(0, 2, 2);
        due("70 two elements", w.firstDifference(0), 1);
        w.exportClosures(0, 2);
        due("70 the closures", w.firstDifference(0), -2);
        w.writeBuffer(0, 3, 3 + (1L << 32));
        due("70 a long that is equal only in its low bits", w.firstDifference(0), 3);
        w.createBuffer(0, 1, 6);
        w.writeBuffer(0, 1, 3);
        w.writeBuffer(0, 2, 2);
        w.writeBuffer(0, 3, 3);
        due("70 elements beyond 2^n do not count", w.firstDifference(0), -2);
        w.setEnabled(0, 0);
        due("70 a disabled rule", w.firstDifference(0), 1);
        w.writeBuffer(0, 0, 1);
        due("70 the first element", w.firstDifference(0), 0);
    }

    /** The draws with seed 1 and four attributes, by hand: 1103527590, then 2524885223 and so on. */
    private static void randomClosureSum() {
        HornRuleWorkbench w = new HornRuleWorkbench();
        due("71 count 0", w.randomClosureSum(0, 1), -5);
        due("71 count 21", w.randomClosureSum(21, 1), -5);
        due("71 count -1", w.randomClosureSum(-1, 1), -5);
        // 1103527590 / 65536 is 16838, and 16838 % 16 is 6, a set of two attributes
        due("71 one draw", w.randomClosureSum(1, 1), 2);
        // 2524885223 without its sign bit is 377401575, that / 65536 is 5758, % 16 is 14
        due("71 two draws", w.randomClosureSum(2, 1), 5);
        w.addRule(6, 1);
        due("71 closures count", w.randomClosureSum(1, 1), 3);
        w.addRule(0, 15);
        due("71 twenty full sets", w.randomClosureSum(20, -5), 80);
        w.setEnabled(1, 0);
        w.setEnabled(0, 0);
        due("71 a negative seed: the state is -1103502900", w.randomClosureSum(1, -1), 2);
    }
}
