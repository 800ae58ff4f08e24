/** Promises 55 to 64, 72 and 73: texts, undo and redo, and the snapshot. */
public final class TextAndEditsTest {
    public static void main(String[] args) {
        textBuffer();
        parseRules();
        parseErrors();
        parseFull();
        formatRules();
        undoAndRedo();
        twelveEdits();
        editsOfAllSizes();
        snapshot();
        Due.end();
    }

    private static void due(String call, long got, long want) {
        Due.due(call, got, want);
    }

    private static int parse(HornRuleWorkbench w, String text) {
        for (char c : text.toCharArray()) {
            w.appendText(c);
        }
        return w.parseRules();
    }

    private static void dueFormat(String what, HornRuleWorkbench w, String want) {
        due("58 length, " + what, w.formatRules(), want.length());
        for (int i = 0; i < want.length(); i++) {
            due("59 formattedCharacter(" + i + "), " + what, w.formattedCharacter(i), want.charAt(i));
        }
        due("59 beyond the end, " + what, w.formattedCharacter(want.length()), -2);
        due("59 before the start, " + what, w.formattedCharacter(-1), -2);
    }

    private static void textBuffer() {
        HornRuleWorkbench w = new HornRuleWorkbench();
        due("56 an empty text", w.clearText(), 0);
        due("55 31", w.appendText(31), -5);
        due("55 127", w.appendText(127), -5);
        due("55 -1", w.appendText(-1), -5);
        due("55 the letter a and 2^16", w.appendText('a' + 65536), -5);
        due("55 32", w.appendText(32), 1);
        due("55 126", w.appendText(126), 2);
        due("56 clearText", w.clearText(), 2);
        for (int i = 1; i <= 80; i++) {
            due("55 appendText " + i, w.appendText('>'), i);
        }
        due("55 the 81st", w.appendText('>'), -3);
        due("55 BAD_ARGUMENT first", w.appendText(31), -5);
        due("56 clearText", w.clearText(), 80);
        due("56 clearText again", w.clearText(), 0);
        due("57 nothing is left to parse", w.parseRules(), -100);
    }

    private static void parseRules() {
        HornRuleWorkbench w = new HornRuleWorkbench();
        due("57 three rules", parse(w, "ab>c,>a,d>"), 3);
        due("57 premise(0)", w.premise(0), 3);
        due("57 conclusion(0)", w.conclusion(0), 4);
        due("57 premise(1)", w.premise(1), 0);
        due("57 conclusion(1)", w.conclusion(1), 1);
        due("57 premise(2)", w.premise(2), 8);
        due("57 conclusion(2)", w.conclusion(2), 0);
        due("57 enabled", w.isEnabled(0) + w.isEnabled(1) + w.isEnabled(2), 3);
        due("57 they act", w.closure(2), 7);
        due("57 one edit", w.undoCount(), 1);
        due("57 the text is empty afterwards", w.clearText(), 0);
        due("57 rules come after those that were there", parse(w, "abcd>abcd"), 1);
        due("57 premise(3)", w.premise(3), 15);
        due("57 undone", w.undo(), 1);
        due("57 undone as a whole", w.undo(), 0);
        due("57 no rules", w.ruleCount(), 0);
        due("57 redone", w.redo(), 1);
        due("57 redone as a whole", w.ruleCount(), 3);
        w.reset(6);
        due("57 six letters", parse(w, "abcdef>f"), 1);
        due("57 all of them", w.premise(0), 63);
        due("57 the sixth", w.conclusion(0), 32);
    }

    private static void parseErrors() {
        HornRuleWorkbench w = new HornRuleWorkbench();
        w.addRule(1, 2);
        w.addRule(2, 4);
        w.undo();
        Object[][] texts = {
            {"", -100}, {"a", -101}, {"abcd", -104}, {">,", -102}, {"a>b,", -104}, {"a>b,c", -105},
            {",", -100}, {",>", -100}, {"aa>", -101}, {"ba>", -101}, {"a>ba", -103}, {"a>bb", -103},
            {"a>b>", -103}, {">>", -101}, {"a,b>c", -101}, {"a>,,b>c", -103}, {" a>b", -100},
            {"a >b", -101}, {"a>b ", -103}, {"e>a", -100}, {"a>e", -102}, {"A>b", -100},
            {"`>b", -100}, {"{>b", -100}, {"a>b,c>d,x", -108}, {"a>b,ab>d,ba>", -110},
            {"a>b,c>d,a>b,c>d,a>b,c>d,a>b,c>d,a>b,c>d,a>b,c>d,z", -148}};
        for (Object[] row : texts) {
            due("57 " + row[0], parse(w, (String) row[0]), (Integer) row[1]);
            due("57 the text is empty after " + row[0], w.clearText(), 0);
        }
        due("57 no rule came of it", w.ruleCount(), 1);
        due("57 nor an edit", w.undoCount(), 1);
        due("57 what can be redone stays", w.redoCount(), 1);
        w.reset(2);
        due("57 c is no attribute now", parse(w, "a>c"), -102);
        due("57 b is", parse(w, "a>b"), 1);
    }

    private static void parseFull() {
        HornRuleWorkbench w = new HornRuleWorkbench();
        due("57 eleven rules", parse(w, ">,>,>,>,>,>,>,>,>,>,>"), -3);
        due("57 forty rules", parse(w, ">,>,>,>,>,>,>,>,>,>,>,>,>,>,>,>,>,>,>,>,"
                + ">,>,>,>,>,>,>,>,>,>,>,>,>,>,>,>,>,>,>,>"), -3);
        due("57 the text is empty afterwards", w.clearText(), 0);
        due("57 none was added", w.ruleCount(), 0);
        due("57 no edit", w.undoCount(), 0);
        due("57 ten rules", parse(w, ">,>,>,>,>,>,>,>,>,>"), 10);
        due("57 one more", parse(w, "a>b"), -3);
        due("57 a wrong text before FULL", parse(w, "a>b,"), -104);
        w.removeLastRule();
        due("57 two, and room for one", parse(w, "a>b,c>d"), -3);
        due("57 one, and room for one", parse(w, "a>b"), 1);
        due("57 it is the tenth", w.premise(9) * 10 + w.conclusion(9), 12);
    }

    private static void formatRules() {
        HornRuleWorkbench w = new HornRuleWorkbench();
        due("59 at first", w.formattedCharacter(0), -2);
        dueFormat("no rules", w, "");
        w.addRule(13, 2);
        w.addRule(0, 0);
        w.addRule(0, 15);
        w.setEnabled(0, 0);
        dueFormat("three rules", w, "acd>b,>,>abcd");
        w.removeLastRule();
        due("59 it is the text of the latest call", w.formattedCharacter(12), 'd');
        w.reset(3);
        due("59 also after reset", w.formattedCharacter(12), 'd');
        dueFormat("no rules any more", w, "");
        w.reset(6);
        StringBuilder longest = new StringBuilder();
        for (int i = 0; i < 10; i++) {
            w.addRule(63, 63);
            longest.append(i > 0 ? "," : "").append("abcdef>abcdef");
        }
        dueFormat("the longest text", w, longest.toString());
        due("59 139 characters", longest.length(), 139);
    }

    private static void undoAndRedo() {
        HornRuleWorkbench w = new HornRuleWorkbench();
        due("60 nothing to undo", w.undo(), -4);
        due("61 nothing to redo", w.redo(), -4);
        w.addRule(1, 2);
        w.setRule(0, 1, 4);
        w.setEnabled(0, 0);
        w.removeLastRule();
        due("72 undoCount", w.undoCount(), 4);
        due("60 removeLastRule", w.undo(), 3);
        due("60 the rule is back", w.isEnabled(0), 0);
        due("60 setEnabled", w.undo(), 2);
        due("60 enabled", w.isEnabled(0), 1);
        due("60 closures follow", w.closure(1), 5);
        due("60 setRule", w.undo(), 1);
        due("60 the old conclusion", w.conclusion(0), 2);
        due("73 redoCount", w.redoCount(), 3);
        due("60 addRule", w.undo(), 0);
        due("60 no rule", w.ruleCount(), 0);
        due("60 nothing more", w.undo(), -4);
        due("73 redoCount", w.redoCount(), 4);
        due("61 addRule", w.redo(), 3);
        due("61 the first conclusion", w.conclusion(0), 2);
        due("61 closures follow", w.closure(1), 3);
        due("61 setRule", w.redo(), 2);
        due("61 the second conclusion", w.conclusion(0), 4);
        due("72 undoCount", w.undoCount(), 2);
        w.addRule(8, 1);
        due("73 a new edit discards what was undone", w.redoCount(), 0);
        due("61 nothing to redo", w.redo(), -4);
        due("72 undoCount", w.undoCount(), 3);
        w.addRule(16, 1);
        w.undo();
        w.addRule(16, 1);
        due("73 a failed call discards nothing", w.redoCount(), 1);
    }

    private static void twelveEdits() {
        HornRuleWorkbench w = new HornRuleWorkbench();
        w.addRule(1, 0);
        for (int i = 1; i <= 13; i++) {
            w.setRule(0, 1, i);
        }
        due("72 twelve are remembered", w.undoCount(), 12);
        for (int i = 12; i >= 1; i--) {
            due("60 undo", w.undo(), i - 1);
            due("60 the conclusion before", w.conclusion(0), i);
        }
        due("60 the first two are forgotten", w.undo(), -4);
        due("73 redoCount", w.redoCount(), 12);
        for (int i = 2; i <= 13; i++) {
            due("61 redo", w.redo(), 13 - i);
            due("61 the conclusion after", w.conclusion(0), i);
        }
        w.undo();
        w.undo();
        w.setRule(0, 2, 2);
        due("72 ten and one", w.undoCount(), 11);
        due("73 none", w.redoCount(), 0);
        w.setRule(0, 3, 3);
        w.setRule(0, 4, 4);
        due("72 twelve again", w.undoCount(), 12);
        w.undo();
        due("60 back to the one before", w.premise(0), 3);
        w.undo();
        due("60 and the one before", w.premise(0), 2);
        w.undo();
        due("60 and the one before", w.conclusion(0), 11);
    }

    /** Fifteen edits with 1 to 10 rules; undo goes back to the state after the third. */
    private static void editsOfAllSizes() {
        HornRuleWorkbench w = new HornRuleWorkbench();
        String[] signs = new String[16];
        for (int edit = 1; edit <= 15; edit++) {
            if (edit <= 10) {
                w.addRule(edit, 15 - edit);
            } else if (edit == 12) {
                w.setEnabled(8, 0);
            } else {
                w.removeLastRule();
            }
            signs[edit] = signs(w);
        }
        for (int edit = 14; edit >= 3; edit--) {
            due("60 undo", w.undo(), edit - 3);
            due("60 the rules after edit " + edit, signs(w).equals(signs[edit]) ? 1 : 0, 1);
        }
        due("60 no more", w.undo(), -4);
        for (int edit = 4; edit <= 15; edit++) {
            due("61 redo", w.redo(), 15 - edit);
            due("61 the rules after edit " + edit, signs(w).equals(signs[edit]) ? 1 : 0, 1);
        }
        due("61 no more", w.redo(), -4);
    }

    /** Tells the states apart with few calls, since an object is used for 512 at most. */
    private static String signs(HornRuleWorkbench w) {
        int count = w.ruleCount();
        return count + " " + w.premise(count / 2) + " " + w.premise(count - 1) + " " + w.conclusion(count - 1)
                + " " + w.isEnabled(8);
    }

    private static void snapshot() {
        HornRuleWorkbench w = new HornRuleWorkbench();
        due("63 no snapshot", w.equalsSnapshot(), -4);
        due("64 no snapshot", w.restore(), -4);
        w.addRule(1, 2);
        w.addRule(2, 4);
        w.setEnabled(1, 0);
        w.addExample(3);
        w.addExample(5);
        due("62 save", w.save(), 2);
        due("72 save leaves the edits", w.undoCount(), 3);
        due("63 the same", w.equalsSnapshot(), 1);
        w.setEnabled(1, 1);
        due("63 another flag", w.equalsSnapshot(), 0);
        w.undo();
        due("63 the same by undo", w.equalsSnapshot(), 1);
        w.setRule(0, 3, 2);
        due("63 another premise", w.equalsSnapshot(), 0);
        w.setRule(0, 1, 6);
        due("63 another conclusion", w.equalsSnapshot(), 0);
        w.setRule(0, 1, 2);
        due("63 the same by setRule", w.equalsSnapshot(), 1);
        w.addRule(0, 0);
        due("63 one rule more", w.equalsSnapshot(), 0);
        due("64 restore", w.restore(), 2);
        w.addRule(4, 8);
        due("60 undo after restore", w.undo(), 0);
        due("60 goes back to what was restored", w.ruleCount(), 2);
        due("60 and to its flags", w.isEnabled(1), 0);
        w.restore();
        due("72 restore forgets all edits", w.undoCount(), 0);
        due("73 restore forgets all edits", w.redoCount(), 0);
        due("64 the flags", w.isEnabled(0) * 10 + w.isEnabled(1), 10);
        w.addExample(0);
        due("63 one example more", w.equalsSnapshot(), 0);
        w.clearExamples();
        w.addExample(5);
        w.addExample(3);
        due("63 the examples in another order", w.equalsSnapshot(), 0);
        due("64 restore again", w.restore(), 2);
        due("64 the examples", w.example(0) * 10 + w.example(1), 35);
        due("64 two examples", w.exampleCount(), 2);
        due("64 closures follow", w.closure(3), 3);
        restoreAcrossReset(w);
    }

    private static void restoreAcrossReset(HornRuleWorkbench w) {
        w.reset(6);
        w.addRule(1, 2);
        w.addRule(2, 4);
        w.setEnabled(1, 0);
        w.addExample(3);
        w.addExample(5);
        due("63 another n", w.equalsSnapshot(), 0);
        w.appendText('a');
        due("64 restore", w.restore(), 2);
        due("64 n", w.attributeCount(), 4);
        due("64 16 is no set", w.closure(16), -1);
        due("64 the text buffer stays", w.clearText(), 1);
        due("64 the snapshot stays", w.equalsSnapshot(), 1);
        w.reset(2);
        due("62 an empty snapshot", w.save(), 0);
        due("63 it replaced the other", w.equalsSnapshot(), 1);
        w.addRule(1, 2);
        due("64 restore", w.restore(), 0);
        due("64 n", w.attributeCount(), 2);
    }
}
