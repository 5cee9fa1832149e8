/** The boundary cases of promises 2 to 4 (sign, read, place), a method for each sentence. */
public final class TapeEdgeTest {
    private static final long BLANKS = 0x2020202020202020L;
    private static final String NINE_RULES = "v1:0-0;v2:0-0;v3:0-0;v4:0-0;v5:0-0;v6:0-0;v7:0-0;v8:0-0;v9:0-0;";

    public static void main(String[] args) {
        signTakesOneToEight();
        signRefusesOtherNumbers();
        signTakesTheLowestBytes();
        signTakesTheHighestFirst();
        signTellsHowMany();
        signFillsTheTape();
        signRefusesRangeBeforeRoom();
        signRefusedChangesNothing();
        readUsesARightTapeUp();
        readUsesAWrongTapeUp();
        readTellsHowManyRules();
        readOfAnEmptyTape();
        readRefusesAWrongText();
        readRefusedChangesNoRule();
        readRefusedChangesNoSubstitute();
        placeOfNoText();
        placeOfARightText();
        placeOfTheLatestText();
        placeIsOfTextsThatWereRead();
        wholeLifeOfAnObject();
        Check.end();
    }

    private static CrewRules withBlanks(int n) {
        CrewRules x = new CrewRules();
        for (int left = n; left > 0; left -= 8) {
            x.sign(BLANKS, Math.min(8, left));
        }
        return x;
    }

    private static void signTakesOneToEight() {
        Check.sentence("Promise 2", "n bytes (1 .. 8");
        Check.due("sign(.., 1)", new CrewRules().sign(BLANKS, 1), 1);
        Check.due("sign(.., 8)", new CrewRules().sign(BLANKS, 8), 8);
    }

    private static void signRefusesOtherNumbers() {
        Check.sentence("Promise 2", "Range: n");
        CrewRules x = new CrewRules();
        Check.range("sign(.., 0)", () -> x.sign(BLANKS, 0));
        Check.range("sign(.., 9)", () -> x.sign(BLANKS, 9));
        for (int n : Check.outside(1, 8)) {
            Check.range("sign(.., " + n + ")", () -> x.sign(BLANKS, n));
        }
    }

    private static void signTakesTheLowestBytes() {
        Check.sentence("Promise 2", "the lowest n");
        CrewRules x = new CrewRules();
        for (char c : "v4:5-6;".toCharArray()) {
            x.sign(0x7878787878787800L | c, 1);
        }
        Check.due("read()", x.read(), 1);
        Check.due("rule(4, 0)", x.rule(4, 0), 5);
        CrewRules y = new CrewRules();
        y.sign(0x7876343a352d363bL, 7);
        Check.due("read() of seven of eight bytes", y.read(), 1);
        CrewRules z = new CrewRules();
        z.sign(-1L, 1);
        Check.state("read() of byte 255", z::read);
        z.sign(0x100L, 1);
        Check.state("read() of byte 0", z::read);
        Check.due("byte 0 is no blank", z.place(), 0);
    }

    private static void signTakesTheHighestFirst() {
        Check.sentence("Promise 2", "the highest of these first");
        CrewRules x = new CrewRules();
        x.sign(0x76343a352d363b20L, 8);
        Check.due("read() of eight bytes", x.read(), 1);
        Check.due("rule(4, 0)", x.rule(4, 0), 5);
        Check.due("rule(4, 1)", x.rule(4, 1), 6);
        x.sign(0x3b362d353a3476L, 7);
        Check.state("read() of the bytes turned round", x::read);
        Check.due("place()", x.place(), 0);
        // All eight bytes with their highest bit set, so that no sign of a long comes in.
        x.sign(0xf6b4bab5adb6bba0L, 8);
        Check.state("read()", x::read);
        Check.due("place()", x.place(), 0);
    }

    private static void signTellsHowMany() {
        Check.sentence("Promise 2", "more on the tape: how many");
        CrewRules x = new CrewRules();
        int[] pieces = {8, 1, 7, 2, 3};
        int[] due = {8, 9, 16, 18, 21};
        for (int i = 0; i < pieces.length; i++) {
            Check.due("sign(.., " + pieces[i] + ")", x.sign(BLANKS, pieces[i]), due[i]);
        }
    }

    private static void signFillsTheTape() {
        Check.sentence("Promise 2", "no room: there would be more than 300");
        for (int n = 1; n <= 8; n++) {
            int size = n;
            Check.due("just 300 with " + n, withBlanks(300 - n).sign(BLANKS, n), 300);
            CrewRules x = withBlanks(301 - n);
            Check.noRoom("301 with " + n, () -> x.sign(BLANKS, size));
            CrewRules full = withBlanks(300);
            Check.noRoom("300 and " + n, () -> full.sign(BLANKS, size));
        }
    }

    private static void signRefusesRangeBeforeRoom() {
        Check.sentence("Terms, promise 2", "Refusals, in this order");
        CrewRules x = withBlanks(300);
        Check.range("sign(.., 0) on a full tape", () -> x.sign(BLANKS, 0));
        for (int n : Check.outside(1, 8)) {
            Check.range("sign(.., " + n + ") on a full tape", () -> x.sign(BLANKS, n));
        }
    }

    private static void signRefusedChangesNothing() {
        Check.sentence("Terms, promise 2", "What is refused changes nothing");
        CrewRules x = new CrewRules();
        Check.tape(x, "v1:0-0;");
        Check.range("sign('x', 9)", () -> x.sign('x', 9));
        Check.range("sign('x', 0)", () -> x.sign('x', 0));
        for (int i = 0; i < 36; i++) {
            x.sign(BLANKS, 8);
        }
        Check.noRoom("six bytes for five", () -> x.sign(0x787878787878L, 6));
        Check.due("five for five", x.sign(BLANKS, 5), 300);
        Check.due("read() of what was not refused", x.read(), 1);
    }

    private static void readUsesARightTapeUp() {
        Check.sentence("Promise 3", "The tape (used up,");
        CrewRules x = new CrewRules();
        Check.right(x, "v1:0-0;", 1);
        Check.due("sign after read", x.sign(BLANKS, 2), 2);
        Check.due("read() of blanks", x.read(), 0);
        CrewRules full = withBlanks(300);
        Check.due("read() of a full tape", full.read(), 0);
        Check.due("room again", full.sign(BLANKS, 8), 8);
    }

    private static void readUsesAWrongTapeUp() {
        Check.sentence("Promise 3", "also when this throws)");
        CrewRules x = new CrewRules();
        Check.wrongAt(x, "v1:0-0;x", 7);
        Check.due("sign after a wrong text", x.sign(BLANKS, 2), 2);
        Check.due("read() of what came after", x.read(), 0);
        Check.wrongAt(x, "y".repeat(300), 0);
        Check.due("room again", x.sign(BLANKS, 8), 8);
        Check.due("read() of what came after", x.read(), 0);
    }

    private static void readTellsHowManyRules() {
        Check.sentence("Promise 3", "becomes the rules: how many there are");
        Check.right("v5:0-0;", 1);
        Check.right(NINE_RULES, 9);
        Check.right("sa=b[0-0];sb=c[0-0];", 0);
        Check.right("sa=b[0-0];v5:0-0;sb=c[0-0];v4:0-0;", 2);
        CrewRules x = Check.with(NINE_RULES);
        Check.right(x, "v7:0-0;v2:0-0;", 2);
    }

    private static void readOfAnEmptyTape() {
        Check.sentence("Promise 3", "The tape");
        CrewRules x = Check.with(NINE_RULES);
        Check.due("read() of an empty tape", x.read(), 0);
        Check.due("place()", x.place(), -1);
        Check.unknown("rule(1, 0)", () -> x.rule(1, 0));
        Check.due("verdict(0, 0)", x.verdict(0, 0), 1);
    }

    private static void readRefusesAWrongText() {
        Check.sentence("Promise 3", "State: it is wrong.");
        CrewRules x = new CrewRules();
        Check.wrongAt(x, ";", 0);
        Check.wrongAt(x, "v1:0-0", 6);
        Check.wrongAt(x, "x" + " ".repeat(299), 0);
        Check.wrongAt(x, " ".repeat(299) + "x", 299);
    }

    private static void readRefusedChangesNoRule() {
        Check.sentence("Terms, promise 3", "What is refused changes nothing (but the tape is used up, where that is said).");
        CrewRules x = Check.with("v1:2-3~4^5,1a;");
        String[] wrongs = {"v1:6-7~8^9,2b,2c;x", "v2:0-0;v1:6-7~8^9,2b,2c", "v1:6-7~8^9,2b,2k;", "v1:6-7~8^49;", "v1:6-7~25;", "v1:6-10;", "x"};
        for (String text : wrongs) {
            Check.tape(x, text);
            Check.state("read() of '" + text + "'", x::read);
            int[] due = {2, 3, 4, 5, 1};
            for (int what = 0; what < 5; what++) {
                Check.due("rule(1, " + what + ") after '" + text + "'", x.rule(1, what), due[what]);
            }
            Check.unknown("rule(2, 0) after '" + text + "'", () -> x.rule(2, 0));
        }
    }

    private static void readRefusedChangesNoSubstitute() {
        Check.sentence("Terms, promise 3", "What is refused changes nothing");
        CrewRules x = Check.with("sa=b[0-23];");
        x.join(0, 1);
        x.skill(1, 1, 9);
        Check.wrongAt(x, "sc=b[0-23];sa=b[3-3];x", 21);
        Check.due("b for a as before", x.having(0, 0, 0, 5), 1);
        Check.due("b for c not at all", x.having(0, 2, 0, 5), 0);
    }

    private static void placeOfNoText() {
        Check.sentence("Promise 4", "or there was none");
        CrewRules x = new CrewRules();
        Check.due("place()", x.place(), -1);
        x.sign('x', 1);
        Check.due("place() of a text that is not read yet", x.place(), -1);
    }

    private static void placeOfARightText() {
        Check.sentence("Promise 4", "-1 when it was right");
        CrewRules x = new CrewRules();
        Check.wrongAt(x, "v1:0-0;x", 7);
        Check.right(x, "v1:0-0;", 1);
        Check.wrongAt(x, "x", 0);
        Check.due("read() of an empty tape", x.read(), 0);
        Check.due("place() of an empty text", x.place(), -1);
    }

    private static void placeOfTheLatestText() {
        Check.sentence("Promise 4", "Where the latest text was wrong");
        CrewRules x = new CrewRules();
        Check.wrongAt(x, "v1:0-0;x", 7);
        Check.wrongAt(x, "x", 0);
        Check.wrongAt(x, "v", 1);
        Check.due("place() once more", x.place(), 1);
        Check.wrongAt(x, "v1:0-0;" + " ".repeat(292) + "v", 300);
    }

    private static void placeIsOfTextsThatWereRead() {
        Check.sentence("Promise 4", "Where the latest text was wrong");
        CrewRules x = new CrewRules();
        Check.wrongAt(x, "v1:x", 3);
        Check.tape(x, "v1:0-0;");
        Check.due("place() before read()", x.place(), 3);
        Check.range("sign(.., 9)", () -> x.sign(0, 9));
        Check.unknown("rule(1, 0)", () -> x.rule(1, 0));
        Check.due("place() after other refusals", x.place(), 3);
    }

    private static void wholeLifeOfAnObject() {
        Check.sentence("What it is", "An object is used for at most 512 calls after it has been made");
        CrewRules x = new CrewRules();
        String text = NINE_RULES + " ".repeat(300 - NINE_RULES.length());
        // 38 calls of sign and one of read, thirteen times.
        for (int i = 0; i < 13; i++) {
            Check.tape(x, text);
            Check.due("read() " + i, x.read(), 9);
        }
        for (int i = 0; i < 5; i++) {
            Check.due("place()", x.place(), -1);
        }
    }
}
