/** The sentences of promises 55 to 64, 72 and 73, a method for each promise. */
final class TextBoundaries extends Boundaries {
    static void run() {
        appendText();
        clearText();
        parseRules();
        formOfTexts();
        parseAnswers();
        formatRules();
        formattedCharacter();
        undo();
        redo();
        save();
        equalsSnapshot();
        restore();
        undoCount();
        redoCount();
    }

    private static void dueParse(HornRuleWorkbench w, String text, int want) {
        due("parse \"" + text + "\"", parse(w, text), want);
    }

    private static void dueText(String what, HornRuleWorkbench w, String want) {
        due(what + ": " + want, formatted(w).equals(want) ? 1 : 0, 1);
    }

    private static void appendText() {
        says(55, "Appends a character to the text buffer.");
        HornRuleWorkbench w = new HornRuleWorkbench();
        append(w, "ab>c");
        due("in this order", w.parseRules(), 1);
        due("premise", w.premise(0), 3);
        due("conclusion", w.conclusion(0), 4);

        says(55, "`character`: the character, 32 to 126");
        due("32", new HornRuleWorkbench().appendText(32), 1);
        due("126", new HornRuleWorkbench().appendText(126), 1);
        due("31", new HornRuleWorkbench().appendText(31), BAD_ARGUMENT);
        due("127", new HornRuleWorkbench().appendText(127), BAD_ARGUMENT);

        says(55, "Returns the new length of the text buffer; BAD_ARGUMENT if the character is out of range"
                + " (checked first); FULL if the text buffer has 80 characters.");
        HornRuleWorkbench u = new HornRuleWorkbench();
        int[] wrong = {31, 127, 0, -1, 10, 128, 255, 32 + 256, 'a' + 65536, MIN, MAX};
        for (int length = 1; length <= 80; length++) {
            due("31", u.appendText(31), BAD_ARGUMENT);
            due("127", u.appendText(127), BAD_ARGUMENT);
            due("appendText", u.appendText(46 + length), length);
        }
        dueEach("full", u::appendText, FULL, 32, 126, 'a', '>', ',');
        dueEach("full and wrong", u::appendText, BAD_ARGUMENT, wrong);
        u.clearText();
        dueEach("empty and wrong", u::appendText, BAD_ARGUMENT, wrong);
        due("the first again", u.appendText('a'), 1);
    }

    private static void clearText() {
        says(56, "Empties the text buffer.");
        HornRuleWorkbench w = new HornRuleWorkbench();
        append(w, "a>b");
        w.clearText();
        due("an empty text is only incomplete", w.parseRules(), -100);
        append(w, "a>b");
        w.clearText();
        due("the first character again", w.appendText('a'), 1);

        says(56, "Returns the previous length of the text buffer.");
        HornRuleWorkbench u = new HornRuleWorkbench();
        due("0", u.clearText(), 0);
        append(u, " ");
        due("1", u.clearText(), 1);
        append(u, "x".repeat(80));
        due("80", u.clearText(), 80);
        append(u, "x".repeat(81));
        due("80, one was refused", u.clearText(), 80);
        due("0 again", u.clearText(), 0);
    }

    private static void parseRules() {
        says(57, "Parses the text buffer as a list of rules and adds these rules, enabled, in their order.");
        HornRuleWorkbench w = with(6, 1, 2);
        w.setEnabled(0, 0);
        parse(w, "f>,>f,abcdef>abcdef");
        dueRow("premise", w::premise, 1, 32, 0, 63);
        dueRow("conclusion", w::conclusion, 2, 0, 32, 63);
        dueRow("isEnabled", w::isEnabled, 0, 1, 1, 1);
        due("they act", w.closure(0), 32);
        HornRuleWorkbench refused = with(6);
        parse(refused, "a>b,b>c,c>d!");
        due("none of a wrong text's rules", refused.ruleCount(), 0);

        says(57, "The text buffer is empty afterwards in every case, even after an error.");
        HornRuleWorkbench u = new HornRuleWorkbench();
        for (String text : new String[] {"", "a>b", "a", "!", "a>b,", ",".repeat(80), ">" + ",>".repeat(10)}) {
            parse(u, text);
            due("after \"" + text + "\"", u.clearText(), 0);
        }
        due("only the one was right", u.ruleCount(), 1);
        for (String text : new String[] {"ab", "a>", "a>b,c", "a>b,c>d!", "!"}) {
            HornRuleWorkbench v = with(4);
            int first = parse(v, text) == 1 ? 1 : 0;
            due("a right one after \"" + text + "\"", parse(v, ">c"), 1);
            due("its premise", v.premise(first), 0);
            due("its conclusion", v.conclusion(first), 4);
            due("no rule more", v.ruleCount(), first + 1);
        }
    }

    private static void formOfTexts() {
        says(57, "The text is one or more rules, separated by commas.");
        dueParse(with(4), "", -100);
        dueParse(with(4), ">", 1);
        dueParse(with(4), "a>b,b>c", 2);
        dueParse(with(4), ">" + ",>".repeat(9), 10);
        dueParse(with(4), ",a>b", -100);
        dueParse(with(4), "a>b,", -104);
        dueParse(with(4), "a>b,,b>c", -104);
        dueParse(with(4), "a>b;b>c", -103);
        dueParse(with(4), ",", -100);

        says(57, "A rule is a set, the character '>', and a set.");
        dueParse(with(4), "a>b", 1);
        dueParse(with(4), "ab", -102);
        dueParse(with(4), "a,b>c", -101);
        dueParse(with(4), "a>b>c", -103);
        dueParse(with(4), ">>", -101);
        dueParse(with(4), "a>b,c", -105);
        dueParse(with(4), "a>b,c,d>a", -105);
        dueParse(with(4), "a<b", -101);

        says(57, "A set is zero or more letters in strictly ascending order; the letter a means attribute 0, b means"
                + " attribute 1, and so on; only letters of existing attributes are allowed.");
        HornRuleWorkbench w = with(6);
        dueParse(w, ">,a>b,c>d,e>f,abcdef>abcdef", 5);
        dueRow("premise", w::premise, 0, 1, 4, 16, 63);
        dueRow("conclusion", w::conclusion, 0, 2, 8, 32, 63);
        dueParse(with(6), "aa>", -101);
        dueParse(with(6), "ba>", -101);
        dueParse(with(6), "abb>", -102);
        dueParse(with(6), "ace>fdb", -105);
        dueParse(with(6), ">aa", -102);
        for (int n = 1; n <= 6; n++) {
            dueParse(with(n), (char) ('a' + n - 1) + ">", 1);
            dueParse(with(n), (char) ('a' + n) + ">", -100);
            dueParse(with(n), ">" + (char) ('a' + n), -101);
        }
        dueParse(with(6), "`>", -100);
        dueParse(with(6), "A>", -100);
        dueParse(with(6), "{>", -100);
        dueParse(with(6), "1>", -100);

        says(57, "There are no blanks.");
        dueParse(with(4), " ", -100);
        dueParse(with(4), " a>b", -100);
        dueParse(with(4), "a >b", -101);
        dueParse(with(4), "a> b", -102);
        dueParse(with(4), "a>b ", -103);
        dueParse(with(4), "a>b, c>d", -104);
    }

    private static void parseAnswers() {
        says(57, "Returns the number of rules that were added, at least 1; -100 - p if the text is not of this form"
                + " (checked first), where p is the position, from 0, of the first character that cannot continue a"
                + " text of this form, or the length of the text if the text is only incomplete; FULL if not all of"
                + " these rules have room.");
        dueParse(with(6), ">", 1);
        dueParse(with(6), "abc>def,".repeat(9) + "abc>cdef", 10);
        dueParse(with(6), "!", -100);
        dueParse(with(6), "a>b,".repeat(19) + "a>b!", -179);
        dueParse(with(6), "a>b,".repeat(20), -180);
        dueParse(with(6), "a>!,b!", -102);
        dueParse(with(6), "", -100);
        dueParse(with(6), "abcdef", -106);
        dueParse(with(6), "abcdefg", -106);
        dueParse(with(6), ">" + ",>".repeat(10), FULL);
        dueParse(with(6), ">" + ",>".repeat(39), FULL);
        dueParse(with(6), ">" + ",>".repeat(38) + ",", -178);
        HornRuleWorkbench w = with(6, 0, 0, 0, 0, 0, 0, 0, 0, 0, 0, 0, 0, 0, 0, 0, 0);
        dueParse(w, ">,>,>", FULL);
        due("none was added", w.ruleCount(), 8);
        dueParse(w, ">,>", 2);
        dueParse(w, ">", FULL);
        dueParse(w, ">,", -102);
        dueParse(w, "", -100);
        due("ten", w.ruleCount(), 10);
    }

    private static void formatRules() {
        says(58, "Formats all rules, enabled or not, into the formatted text, in the form that parseRules reads.");
        HornRuleWorkbench w = with(6, 0, 0, 63, 63, 1, 0, 0, 32, 21, 42);
        String text = ">,abcdef>abcdef,a>,>f,ace>bdf";
        dueText("five rules", w, text);
        w.setEnabled(0, 0);
        w.setEnabled(4, 0);
        dueText("the ends disabled", w, text);
        HornRuleWorkbench u = with(6);
        dueParse(u, text, 5);
        dueText("parsed and formatted", u, text);

        says(58, "A disabled rule is written like an enabled one.");
        HornRuleWorkbench v = with(4, 3, 12);
        dueText("enabled", v, "ab>cd");
        v.setEnabled(0, 0);
        dueText("disabled", v, "ab>cd");

        says(58, "The formatted text is empty at first and if there are no rules.");
        HornRuleWorkbench x = new HornRuleWorkbench();
        dueRow("at first", x::formattedCharacter);
        due("no rules", x.formatRules(), 0);
        dueRow("no rules", x::formattedCharacter);
        x.addRule(1, 2);
        x.formatRules();
        x.removeLastRule();
        due("no rules any more", x.formatRules(), 0);
        dueRow("no rules any more", x::formattedCharacter);

        says(58, "Returns the length of the formatted text.");
        due("the shortest rule", with(6, 0, 0).formatRules(), 1);
        HornRuleWorkbench y = with(6);
        for (int rules = 1; rules <= 10; rules++) {
            y.addRule(63, 63);
            due(rules + " long rules", y.formatRules(), 14 * rules - 1);
        }
        due("the last of 139 characters", y.formattedCharacter(138), 'f');
        due("no character more", y.formattedCharacter(139), NONE);
        due("ten short rules", parse(with(6), ">" + ",>".repeat(9)), 10);
    }

    private static void formattedCharacter() {
        says(59, "Returns a character of the formatted text as it was made by the latest call of formatRules.");
        HornRuleWorkbench w = with(4, 1, 2);
        dueRow("before the first call", w::formattedCharacter);
        w.formatRules();
        w.setRule(0, 4, 8);
        dueRow("the rule changed", w::formattedCharacter, 'a', '>', 'b');
        w.removeLastRule();
        dueRow("no rules any more", w::formattedCharacter, 'a', '>', 'b');
        w.undo();
        w.formatRules();
        dueRow("the latest call", w::formattedCharacter, 'c', '>', 'd');
        w.reset(1);
        dueRow("after reset", w::formattedCharacter, 'c', '>', 'd');
        w.formatRules();
        dueRow("an empty text", w::formattedCharacter);

        says(59, "Returns the character, or NONE if there is no such position.");
        HornRuleWorkbench u = with(6, 63, 63, 0, 0);
        u.formatRules();
        dueRow("two rules", u::formattedCharacter,
                'a', 'b', 'c', 'd', 'e', 'f', '>', 'a', 'b', 'c', 'd', 'e', 'f', ',', '>');
    }

    private static void undo() {
        says(60, "Reverts the latest edit that is not undone.");
        HornRuleWorkbench w = with(4);
        w.addRule(1, 2);
        w.setRule(0, 3, 4);
        w.setEnabled(0, 0);
        parse(w, "a>b,c>d");
        w.removeLastRule();
        w.undo();
        dueRow("removeLastRule", w::premise, 3, 1, 4);
        w.undo();
        dueRow("parseRules", w::premise, 3);
        due("still disabled", w.isEnabled(0), 0);
        due("and without effect", w.closure(3), 3);
        w.undo();
        due("setEnabled", w.isEnabled(0), 1);
        due("it acts again", w.closure(3), 7);
        w.undo();
        due("setRule, premise", w.premise(0), 1);
        due("setRule, conclusion", w.conclusion(0), 2);
        w.undo();
        dueRow("addRule", w::premise);

        says(60, "Returns the number of edits that can still be undone, or EMPTY if there is none to undo.");
        HornRuleWorkbench u = with(4);
        due("no edit", u.undo(), EMPTY);
        for (int i = 0; i < 14; i++) {
            u.addRule(0, 0);
            u.removeLastRule();
        }
        for (int left = 11; left >= 0; left--) {
            due("undo", u.undo(), left);
        }
        due("none is left", u.undo(), EMPTY);
        due("none is left, again", u.undo(), EMPTY);
        u.redo();
        due("after redo", u.undo(), 0);
    }

    private static void redo() {
        says(61, "Repeats the latest undone edit.");
        HornRuleWorkbench w = with(4);
        w.addRule(1, 2);
        w.setRule(0, 3, 4);
        w.setEnabled(0, 0);
        parse(w, "a>b,c>d");
        w.removeLastRule();
        for (int i = 0; i < 5; i++) {
            w.undo();
        }
        w.redo();
        dueRow("addRule", w::premise, 1);
        w.redo();
        dueRow("setRule, premise", w::premise, 3);
        dueRow("setRule, conclusion", w::conclusion, 4);
        due("still enabled", w.isEnabled(0), 1);
        due("it acts", w.closure(3), 7);
        w.redo();
        due("setEnabled", w.isEnabled(0), 0);
        due("it acts no more", w.closure(3), 3);
        w.redo();
        dueRow("parseRules", w::premise, 3, 1, 4);
        w.redo();
        dueRow("removeLastRule", w::premise, 3, 1);

        says(61, "Returns the number of edits that can still be redone, or EMPTY if there is none to redo.");
        HornRuleWorkbench u = with(4);
        due("no edit", u.redo(), EMPTY);
        for (int i = 0; i < 14; i++) {
            u.addRule(0, 0);
            u.removeLastRule();
        }
        due("none is undone", u.redo(), EMPTY);
        for (int i = 0; i < 13; i++) {
            u.undo();
        }
        for (int left = 11; left >= 0; left--) {
            due("redo", u.redo(), left);
        }
        due("none is left", u.redo(), EMPTY);
        due("none is left, again", u.redo(), EMPTY);
    }

    /** Ten rules, of which the last is disabled, and ten examples. */
    private static HornRuleWorkbench fullOne() {
        HornRuleWorkbench w = withPairs();
        w.setEnabled(9, 0);
        for (int i = 0; i < 10; i++) {
            w.addExample(63 - i);
        }
        return w;
    }

    private static void save() {
        says(62, "Saves a snapshot of the number of attributes, all rules with their flags, and all examples.");
        HornRuleWorkbench w = fullOne();
        w.save();
        w.reset(1);
        w.restore();
        due("attributeCount", w.attributeCount(), 6);
        dueRow("premise", w::premise, PAIRS);
        dueRow("conclusion", w::conclusion, 32, 32, 32, 32, 32, 32, 32, 32, 32, 32);
        dueRow("isEnabled", w::isEnabled, 1, 1, 1, 1, 1, 1, 1, 1, 1, 0);
        dueRow("example", w::example, 63, 62, 61, 60, 59, 58, 57, 56, 55, 54);

        says(62, "An earlier snapshot is replaced.");
        HornRuleWorkbench u = fullOne();
        u.save();
        u.reset(1);
        u.save();
        due("it is the empty one", u.equalsSnapshot(), 1);
        u.addRule(0, 1);
        u.addExample(1);
        due("no rules come back", u.restore(), 0);
        due("no examples come back", u.exampleCount(), 0);
        due("nor does n", u.attributeCount(), 1);

        says(62, "Returns the number of rules.");
        due("none", new HornRuleWorkbench().save(), 0);
        due("ten, one of them disabled", fullOne().save(), 10);
        due("one", with(1, 0, 1).save(), 1);
    }

    private static void equalsSnapshot() {
        says(63, "Returns whether the number of attributes, the rules, their flags and the examples are the same as in"
                + " the snapshot.");
        HornRuleWorkbench w = with(4);
        w.save();
        w.reset(5);
        due("another n alone", w.equalsSnapshot(), 0);
        w.reset(4);
        due("the same n", w.equalsSnapshot(), 1);
        w = fullOne();
        w.save();
        w.setRule(9, 25, 32);
        due("another premise of the last rule", w.equalsSnapshot(), 0);
        w.setRule(9, 24, 33);
        due("another conclusion of the last rule", w.equalsSnapshot(), 0);
        w.setRule(9, 24, 32);
        due("the same", w.equalsSnapshot(), 1);
        w.setEnabled(9, 1);
        due("another flag of the last rule", w.equalsSnapshot(), 0);
        w.setEnabled(9, 0);
        w.setEnabled(0, 0);
        due("another flag of the first rule", w.equalsSnapshot(), 0);
        w.undo();
        due("the same by undo", w.equalsSnapshot(), 1);
        w.removeLastRule();
        due("one rule less", w.equalsSnapshot(), 0);
        w.undo();
        w.clearExamples();
        due("no examples", w.equalsSnapshot(), 0);
        for (int i = 0; i < 9; i++) {
            w.addExample(63 - i);
        }
        due("one example less", w.equalsSnapshot(), 0);
        w.addExample(53);
        due("another last example", w.equalsSnapshot(), 0);

        says(63, "Returns 1 if they are the same, 0 if not, or EMPTY if there is no snapshot.");
        HornRuleWorkbench u = new HornRuleWorkbench();
        due("no snapshot", u.equalsSnapshot(), EMPTY);
        u.reset(4);
        due("no snapshot after reset", u.equalsSnapshot(), EMPTY);
        u.save();
        due("right after save", u.equalsSnapshot(), 1);
        u.addExample(0);
        due("not the same", u.equalsSnapshot(), 0);
        u.clearExamples();
        due("the same again", u.equalsSnapshot(), 1);
    }

    private static void restore() {
        says(64, "Restores the snapshot and forgets all edits.");
        HornRuleWorkbench w = fullOne();
        w.save();
        w.reset(2);
        w.addRule(1, 2);
        w.addRule(2, 1);
        w.undo();
        w.addExample(3);
        w.restore();
        due("attributeCount", w.attributeCount(), 6);
        due("ruleCount", w.ruleCount(), 10);
        due("exampleCount", w.exampleCount(), 10);
        due("closures follow", w.closure(3), 35);
        due("the disabled rule does not act", w.closure(24), 24);
        due("undo", w.undo(), EMPTY);
        due("redo", w.redo(), EMPTY);
        due("undoCount", w.undoCount(), 0);
        due("redoCount", w.redoCount(), 0);
        w.setRule(0, 0, 0);
        w.undo();
        due("undo leads back to the snapshot", w.equalsSnapshot(), 1);

        says(64, "The snapshot stays.");
        w.reset(3);
        due("it differs now", w.equalsSnapshot(), 0);
        due("restored again", w.restore(), 10);
        w.setRule(0, 0, 0);
        due("an edit does not reach it", w.equalsSnapshot(), 0);
        w.restore();
        due("restored a third time", w.premise(0), 3);
        due("the same", w.equalsSnapshot(), 1);

        says(64, "Returns the number of rules, or EMPTY if there is no snapshot.");
        HornRuleWorkbench u = with(2, 1, 2);
        due("no snapshot", u.restore(), EMPTY);
        due("nothing changed", u.ruleCount(), 1);
        due("the edit is not forgotten", u.undoCount(), 1);
        u.save();
        due("one rule", u.restore(), 1);
        u.reset(2);
        u.save();
        due("no rules", u.restore(), 0);
    }

    private static void undoCount() {
        says(72, "Returns the number of edits, 0 to 12.");
        HornRuleWorkbench w = with(4);
        due("at first", w.undoCount(), 0);
        for (int i = 1; i <= 20; i++) {
            if (i % 2 == 1) {
                w.addRule(0, 0);
            } else {
                w.removeLastRule();
            }
            due("after " + i, w.undoCount(), Math.min(i, 12));
        }
        for (int left = 11; left >= 0; left--) {
            w.undo();
            due("after undo", w.undoCount(), left);
        }
        w.undo();
        due("after a refused undo", w.undoCount(), 0);
    }

    private static void redoCount() {
        says(73, "Returns the number of edits, 0 to 12.");
        HornRuleWorkbench w = with(4);
        due("at first", w.redoCount(), 0);
        for (int i = 1; i <= 20; i++) {
            if (i % 2 == 1) {
                w.addRule(0, 0);
            } else {
                w.removeLastRule();
            }
            due("nothing is undone", w.redoCount(), 0);
        }
        for (int i = 1; i <= 14; i++) {
            w.undo();
            due("after undo " + i, w.redoCount(), Math.min(i, 12));
        }
        for (int left = 11; left >= 0; left--) {
            w.redo();
            due("after redo", w.redoCount(), left);
        }
        w.redo();
        due("after a refused redo", w.redoCount(), 0);
    }
}
