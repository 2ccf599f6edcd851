import java.util.regex.Matcher;
import java.util.regex.Pattern;

/** The edges of TEXTS and of promises 37 to 39. */
final class TextEdges {
    private static final Pattern COMMANDS = Pattern.compile(
            "(?:[adrs][0-9]{1,3};|p[0-9]{1,3}(?:,[0-9]{1,3}){2};|c[0-9]{1,3}(?:,[0-9]{1,3}){4};)*");

    private TextEdges() {
    }

    static void run() {
        atMost120();
        sequence();
        eachByteAtEachPlace();
        errorPositions();
        append();
        clearText();
        eachLikeTheMethod();
        rangesOfCommands();
        fullByCommands();
        nothingChanges();
        textStays();
        undoable();
        answers();
    }

    private static int executed(ServiceBudgets x, String text) {
        return Make.execute(x, text);
    }

    private static Twins.Setup with(Twins.Setup setup, String text) {
        return () -> {
            ServiceBudgets x = setup.make();
            Make.write(x, text);
            return x;
        };
    }

    private static void atMost120() {
        Sentences.about(0, "There is a text of at most 120 bytes, initially empty.");
        ServiceBudgets x = new ServiceBudgets();
        Expect.same("initially", x.clearText(), 0);
        for (int length = 1; length <= 120; length++) {
            Expect.same("append()", x.append("s1;".charAt((length - 1) % 3)), length);
        }
        Expect.badState("a 121st byte", x, () -> x.append('s'));
        Expect.same("all 120 are there", x.execute(), 40);
        Expect.same("clearText()", x.clearText(), 120);
        Expect.same("empty again", x.append('s'), 1);
    }

    private static void sequence() {
        Sentences.about(0, "As commands it is a sequence of commands, perhaps empty, without spaces");
        Expect.same("empty", new ServiceBudgets().execute(), 0);
        Expect.same("one", executed(new ServiceBudgets(), "a1;"), 1);
        Expect.same("two", executed(new ServiceBudgets(), "a1;a1;"), 2);
        String text = "p0,0,10;a1;";
        for (int at = 0; at <= text.length(); at++) {
            String spaced = text.substring(0, at) + " " + text.substring(at);
            Expect.same("a space at " + at, executed(Make.many(1), spaced), -10 - at);
        }
        Sentences.about(0, "a command is one of these letters, with numbers of 1 to 3 digits that are separated by "
                + "\",\", and \";\"");
        String[] digits = {"5", "05", "005", "0005"};
        for (int k = 0; k < digits.length; k++) {
            String work = "a" + digits[k] + ";";
            Expect.same(work, executed(new ServiceBudgets(), work), k < 3 ? 1 : -14);
            ServiceBudgets x = Make.many(1);
            Expect.same(digits[k] + " as a value", executed(x, "p2,0," + digits[k] + ";"), k < 3 ? 1 : -18);
            Expect.same(digits[k] + ", the value", x.service(0, 2), k < 3 ? 5 : 2);
        }
        Expect.same("no digit", executed(new ServiceBudgets(), "a;"), -11);
        Expect.same("no digit behind a comma", executed(Make.many(1), "p2,0,;"), -15);
        Expect.same("three digits everywhere", executed(Make.many(2), "c000,001,500,003,001;"), 1);
    }

    /** The first index up to which the text begins no sequence of commands; -1 if it is one itself. */
    private static int literalPosition(String text) {
        for (int end = 1; end <= text.length(); end++) {
            Matcher matcher = COMMANDS.matcher(text.substring(0, end));
            if (!matcher.matches() && !matcher.hitEnd()) {
                return end - 1;
            }
        }
        return COMMANDS.matcher(text).matches() ? -1 : text.length();
    }

    private static void eachByteAtEachPlace() {
        Sentences.about(0, "a work: addService(); c caller,callee,limit,tries,kind: addCall(); d service: fail(); r "
                + "service: repair(); s n: steps(); p what,service,value: set()");
        String[] texts = {"a100;", "c0,001,50,1,2;", "d000;", "r00;", "s50;", "p0,00,100;", "a1;d0;"};
        for (String text : texts) {
            for (int at = 0; at <= text.length(); at++) {
                for (int value = 0; value <= 127; value++) {
                    String other = text.substring(0, at) + (char) value;
                    int position = literalPosition(other);
                    int got = executed(new ServiceBudgets(), other);
                    boolean asDue = position < 0 ? got >= 0 || got <= -1000 : got == -10 - position;
                    Expect.yes("byte " + value + " behind " + text.substring(0, at) + " answered " + got, asDue);
                }
            }
        }
    }

    private static void wrongAt(int position, String... texts) {
        for (String text : texts) {
            Expect.same(text, executed(new ServiceBudgets(), text), -10 - position);
            Expect.same("a1;" + text, executed(new ServiceBudgets(), "a1;" + text), -13 - position);
        }
    }

    private static void errorPositions() {
        Sentences.about(0, "The syntax error position of the text is the index of the first byte that cannot stand "
                + "where it stands (also of a fourth digit)");
        wrongAt(0, "x", ";", "5", ",", "A5;", "P0,0,1;");
        wrongAt(1, "ax", "a,", "aa", "a;", "a-1;", "d,", "p;", "c,");
        wrongAt(2, "a5x", "a5,", "a5a", "p5;", "c5;", "d5,", "r5,", "s5,");
        wrongAt(3, "a55,", "a5;x", "a5;;", "p5,;", "c5,,");
        wrongAt(4, "a555,", "a5555", "a0000;", "p5,5;", "p5555,", "c5,5;");
        wrongAt(6, "p5,5,5,", "p5,5,5,5;", "p5,5555", "c5,5,5;");
        wrongAt(8, "p5,5,5555", "c5,5,5,5;", "c5,5,5555");
        wrongAt(10, "c5,5,5,5,5,", "c5,5,5,5,5,5;");
        wrongAt(12, "c5,5,5,5,5555");
        Sentences.about(0, "or the length of the text if it ends too early.");
        String[] texts = {"a100;", "c0,001,50,1,2;", "d000;", "r00;", "s50;", "p0,00,100;"};
        for (String text : texts) {
            for (int length = 1; length < text.length(); length++) {
                String start = text.substring(0, length);
                Expect.same(start, executed(new ServiceBudgets(), start), -10 - length);
                Expect.same("a1;" + start, executed(new ServiceBudgets(), "a1;" + start), -13 - length);
            }
        }
        String steps = "s1;".repeat(40);
        String early = steps.substring(0, 119);
        Expect.same("120 bytes without an end", executed(new ServiceBudgets(), early + "1"), -130);
        Expect.same("119 bytes", executed(new ServiceBudgets(), early), -129);
        Expect.same("the 120th byte is wrong", executed(new ServiceBudgets(), early + "x"), -129);
    }

    private static void append() {
        Sentences.about(37, "Appends a byte to the text.");
        ServiceBudgets x = Make.many(1);
        String text = "p0,0,77;";
        for (int k = 0; k < text.length(); k++) {
            x.append(text.charAt(k));
        }
        x.execute();
        Expect.same("in the order of the calls", x.service(0, 0), 77);
        Expect.same("nothing but execute() is saved", x.undo(), 1);
        Sentences.about(37, "- value: the byte, 0 to 127");
        ServiceBudgets y = new ServiceBudgets();
        Expect.same("0", y.append(0), 1);
        Expect.same("127", y.append(127), 2);
        Sentences.about(37, "Returns the length of the text afterwards.");
        for (int value = 2; value < 120; value++) {
            Expect.same("byte " + value, y.append(value), value + 1);
        }
        Sentences.about(37, "Throws IllegalArgumentException if value is out of range");
        int[] outside = {-1, 128, 255, 256, Integer.MIN_VALUE, Integer.MAX_VALUE};
        for (int value : outside) {
            Twins.badArgument("value " + value, Make::busy, z -> z.append(value));
            Twins.badArgument("value " + value + ", empty", ServiceBudgets::new, z -> z.append(value));
            Twins.badArgument("value " + value + " ahead of 120 bytes", with(Make::busy, "s1;".repeat(40)),
                    z -> z.append(value));
        }
        Sentences.about(37, "Throws IllegalStateException if the text has 120 bytes");
        Twins.badState("value 0", with(Make::busy, "s1;".repeat(40)), z -> z.append(0));
        Twins.badState("value 127", with(Make::busy, "s1;".repeat(40)), z -> z.append(127));
        ServiceBudgets full = with(Make::busy, "s1;".repeat(40).substring(0, 119)).make();
        Expect.same("119 bytes", full.append(';'), 120);
        full.clearText();
        Expect.same("after clearText()", full.append(';'), 1);
    }

    private static void clearText() {
        Sentences.about(38, "Empties the text.");
        ServiceBudgets x = Make.busy();
        x.clearText();
        Expect.same("no command is left", x.execute(), 0);
        Expect.same("only execute() is saved", Twins.savedBy(x), 4);
        ServiceBudgets y = with(ServiceBudgets::new, "a1;x").make();
        y.clearText();
        Expect.same("a shorter text then", executed(y, "a1;"), 1);
        Expect.same("the request stays", Make.busy().result(0), 5);
        Sentences.about(38, "Returns the length that it had.");
        for (int length = 0; length <= 120; length++) {
            ServiceBudgets z = with(ServiceBudgets::new, "x".repeat(length)).make();
            Expect.same(length + " bytes", z.clearText(), length);
            Expect.same("none then", z.clearText(), 0);
        }
    }

    private static void eachLikeTheMethod() {
        Sentences.about(39, "Executes the text as commands, one after the other, each one like the method.");
        ServiceBudgets x = new ServiceBudgets();
        executed(x, "a5;a10;a3;a7;c0,1,30,2,0;c1,2,5,1,1;c0,3,25,1,2;c0,2,9,3,1;p2,0,9;d1;d3;r3;s1;");
        ServiceBudgets y = Make.busy();
        for (int service = 0; service < 4; service++) {
            for (int what = 0; what <= 10; what++) {
                Expect.same("service(" + service + ", " + what + ")", x.service(service, what),
                        y.service(service, what));
            }
        }
        for (int call = 0; call < 4; call++) {
            for (int what = 0; what <= 5; what++) {
                Expect.same("call(" + call + ", " + what + ")", x.call(call, what), y.call(call, what));
            }
        }
        Expect.same("services()", x.services(), 4);
        Expect.same("calls()", x.calls(), 4);
        Expect.same("the later one counts", executed(x, "p0,0,9;p0,0,8;"), 2);
        Expect.same("its work", x.service(0, 0), 8);
        Expect.same("a command can rely on the one before", executed(x, "a1;d4;"), 2);
        Expect.same("and not on one behind it", executed(x, "d5;a1;"), -1000);
    }

    /** The answer of each command on four services, of which 1 is down and 3 is under repair. */
    private static void rangesOfCommands() {
        String[] fine = {"a1;", "a100;", "c0,1,1,1,0;", "c0,1,500,3,2;", "c3,2,5,1,1;", "d0;", "d2;", "r1;", "s1;",
            "s50;", "p0,0,1;", "p0,3,100;", "p1,0,50;", "p1,0,400;", "p2,0,1;", "p2,0,9;", "p3,0,1;", "p3,0,20;",
            "p4,0,1;", "p4,0,9;", "p5,0,0;", "p5,0,999;"};
        for (String text : fine) {
            Expect.same(text, executed(Make.busy(), text), 1);
        }
        String[] refused = {"a0;", "a101;", "a999;", "c0,1,0,1,0;", "c0,1,501,1,0;", "c0,1,5,0,0;", "c0,1,5,4,0;",
            "c0,1,5,1,3;", "c4,1,5,1,0;", "c0,4,5,1,0;", "c0,0,5,1,0;", "c1,0,5,1,0;", "c2,3,5,1,2;", "d1;", "d3;",
            "d4;", "d999;", "r0;", "r3;", "r4;", "s0;", "s51;", "p6,0,5;", "p0,4,5;", "p0,0,0;", "p0,0,101;",
            "p1,0,49;", "p1,0,401;", "p2,0,0;", "p2,0,10;", "p3,0,0;", "p3,0,21;", "p4,0,0;", "p4,0,10;"};
        for (String text : refused) {
            Expect.same(text, executed(Make.busy(), text), -1000);
            Expect.same("s1;" + text, executed(Make.busy(), "s1;" + text), -1001);
        }
    }

    private static void fullByCommands() {
        Expect.same("12 services", executed(new ServiceBudgets(), "a1;".repeat(12)), 12);
        Expect.same("13 services", executed(new ServiceBudgets(), "a1;".repeat(13)), -1012);
        Expect.same("12 services on top of 1", executed(Make.many(1), "a1;".repeat(12)), -1011);
        ServiceBudgets x = Make.many(2);
        for (int k = 0; k < 14; k++) {
            x.addCall(0, 1, 5, 1, 0);
        }
        Expect.same("24 calls", executed(x, "c0,1,5,1,0;".repeat(10)), 10);
        Expect.same("calls()", x.calls(), 24);
        x.removeCall(0);
        Expect.same("25 calls", executed(x, "c0,1,5,1,0;".repeat(2)), -1001);
        Expect.same("calls() then", x.calls(), 23);
    }

    private static void nothingChanges() {
        Sentences.about(39, "If one of them would throw an exception, nothing changes at all.");
        String[] refused = {"a0;", "a9;c0,1,5,1,0;p0,0,99;d0;r1;s3;p9,0,0;", "a1;".repeat(9), "d0;s9;d0;", "s50;s51;"};
        for (String text : refused) {
            Twins.changesNothing("execute() of " + text, with(Make::busy, text), x -> x.execute());
        }
        String[] wrong = {"x", "a9;c0,1,5,1,0;p0,0,99;d0;r1;s3;x", "a1;a", "a0;x"};
        for (String text : wrong) {
            Twins.changesNothing("execute() of " + text, with(Make::busy, text), x -> x.execute());
        }
    }

    private static void textStays() {
        Sentences.about(39, "The text stays.");
        String[] texts = {"", "s1;", "a1;a1;", "d0;d0;", "x", "s1;".repeat(40), "x".repeat(120)};
        for (String text : texts) {
            ServiceBudgets x = with(Make::busy, text).make();
            x.execute();
            Expect.same("clearText() after '" + text + "'", x.clearText(), text.length());
        }
        ServiceBudgets y = with(ServiceBudgets::new, "a1;a2;").make();
        for (int k = 1; k <= 6; k++) {
            Expect.same("execute() again", y.execute(), 2);
            Expect.same("services()", y.services(), 2 * k);
        }
        Expect.same("a 13th service", y.execute(), -1000);
    }

    private static void undoable() {
        Sentences.about(39, "Undoable if all commands are executed (one saved state for all of them, also if there "
                + "are none).");
        String[] texts = {"", "s1;", "a1;a1;d0;p0,0,9;", "s1;".repeat(40)};
        for (String text : texts) {
            Twins.isUndoable("'" + text + "'", with(Make::busy, text), x -> x.execute());
            Twins.isUndoable("'" + text + "', two states", with(() -> Make.many(2), text), x -> x.execute());
        }
        Twins.isUndoable("nothing at all", ServiceBudgets::new, x -> x.execute());
        ServiceBudgets y = with(ServiceBudgets::new, "a0;").make();
        y.execute();
        Expect.badState("refused ones are not saved", y, () -> y.undo());
        executed(y, "a");
        Expect.badState("wrong ones are not saved", y, () -> y.undo());
    }

    private static void answers() {
        Sentences.about(39, "Returns the number of commands; -10 minus the syntax error position if there is a "
                + "syntax error; -1000 minus the index of the first command (from 0) that would throw an exception.");
        for (int count = 0; count <= 40; count++) {
            Expect.same(count + " commands", executed(new ServiceBudgets(), "s1;".repeat(count)), count);
        }
        for (int count = 0; count < 40; count++) {
            String ahead = "s1;".repeat(count);
            Expect.same("refused as number " + count, executed(new ServiceBudgets(), ahead + "d0;"), -1000 - count);
            Expect.same("wrong behind " + count, executed(new ServiceBudgets(), ahead + "x"), -10 - 3 * count);
        }
        Expect.same("the first one of two", executed(new ServiceBudgets(), "a1;d1;d2;"), -1001);
        Expect.same("a syntax error behind one that is refused", executed(new ServiceBudgets(), "d0;x"), -13);
        Expect.same("a refused one far ahead of the syntax error", executed(new ServiceBudgets(), "d0;s1;s1;s1"), -21);
    }
}
