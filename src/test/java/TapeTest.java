/** Promises 2, 3, 4: sign, read, place. */
public final class TapeTest {
    public static void main(String[] args) {
        signCounts();
        lowestBytesHighestFirst();
        tapeHasRoomFor300();
        readUsesTheTapeUp();
        wrongTextsLeaveTheRules();
        rightTextsReplaceAll();
        Check.end();
    }

    private static void signCounts() {
        CrewRules x = new CrewRules();
        int total = 0;
        for (int n = 1; n <= 8; n++) {
            total += n;
            Check.due("sign of " + n, x.sign(-1L, n), total);
        }
        for (int n : new int[] {0, -1, 9, Integer.MIN_VALUE, Integer.MAX_VALUE}) {
            Check.range("sign(0, " + n + ")", () -> x.sign(0, n));
        }
        Check.due("refused bytes are not on the tape", x.sign(0, 1), total + 1);
    }

    private static void lowestBytesHighestFirst() {
        CrewRules x = new CrewRules();
        // The bytes above the lowest n are not looked at.
        x.sign(0x7878787878787676L, 1);
        x.sign(0x7878787878313a33L, 3);
        x.sign(0x2d343b2020202020L, 8);
        Check.due("read()", x.read(), 1);
        Check.due("the least", x.rule(1, 0), 3);
        Check.due("the greatest", x.rule(1, 1), 4);
        CrewRules y = new CrewRules();
        // A byte above 127 is a byte like others: wrong where it stands.
        y.sign(0x20ff, 2);
        Check.state("read()", y::read);
        Check.due("place()", y.place(), 1);
        // Nor is a byte with the low bits of a sign that sign.
        y.sign(0x76313a302d30bbL, 7);
        Check.state("read()", y::read);
        Check.due("place()", y.place(), 6);
    }

    private static void tapeHasRoomFor300() {
        CrewRules x = new CrewRules();
        for (int i = 0; i < 37; i++) {
            x.sign(0x2020202020202020L, 8);
        }
        Check.noRoom("sign beyond 300", () -> x.sign(0, 5));
        Check.noRoom("sign far beyond 300", () -> x.sign(0, 8));
        Check.range("range goes before room", () -> x.sign(0, 9));
        Check.due("up to 300", x.sign(0x20202020, 4), 300);
        Check.noRoom("sign on a full tape", () -> x.sign(0, 1));
        Check.due("blanks alone are right", x.read(), 0);
        Check.due("place()", x.place(), -1);
        Check.due("the tape is empty again", x.sign(32, 1), 1);

        CrewRules y = new CrewRules();
        String text = "v7:1-2;" + " ".repeat(292);
        Check.right(y, text + " ", 1);
        Check.wrongAt(y, text + ";", 299);
        Check.wrongAt(y, text + "v", 300);
    }

    private static void readUsesTheTapeUp() {
        CrewRules x = new CrewRules();
        Check.due("read() of nothing", x.read(), 0);
        Check.due("place()", x.place(), -1);
        Check.wrongAt(x, "q", 0);
        Check.due("place() stays", x.place(), 0);
        Check.due("sign after a wrong text", x.sign(32, 1), 1);
        Check.due("place() is of the latest text that was read", x.place(), 0);
        Check.due("read()", x.read(), 0);
        Check.due("place()", x.place(), -1);
        Check.right(x, "v3:0-1;", 1);
        Check.right(x, "v3:0-1;v1:2-2;", 2);
        Check.right(x, "sa=b[0-0];v3:0-1;sc=d[0-0];v1:2-2;v9:0-9;", 3);
        Check.right(x, "sa=b[0-0];", 0);
    }

    private static void wrongTextsLeaveTheRules() {
        CrewRules x = Check.with("v1:1-1,1a;sa=b[0-23];");
        x.join(0, 5);
        x.skill(5, 1, 9);
        Check.due("the verdict", x.verdict(0, 0), 0);
        Check.wrongAt(x, "v1:2-3~4^5,2b;sa=c[0-23];v2:1-1;x", 32);
        Check.due("the least", x.rule(1, 0), 1);
        Check.due("the rest", x.rule(1, 2), -1);
        Check.due("the longest", x.rule(1, 3), -1);
        Check.due("the needs", x.rule(1, 4), 1);
        Check.unknown("rule(2, 0)", () -> x.rule(2, 0));
        Check.due("the verdict", x.verdict(0, 0), 0);
        Check.wrongAt(x, "v1:2", 4);
        Check.due("the least", x.rule(1, 0), 1);
    }

    private static void rightTextsReplaceAll() {
        CrewRules x = Check.with("v1:0-9,1a;sa=b[0-23];v2:1-1~3^4;");
        x.join(0, 5);
        x.skill(5, 1, 9);
        Check.due("with the substitute", x.verdict(0, 0), 0);
        Check.right(x, "v1:0-9,1a;", 1);
        Check.due("without the substitute", x.verdict(0, 0), 10);
        Check.unknown("rule(2, 0)", () -> x.rule(2, 0));
        Check.right(x, "v2:0-9;", 1);
        Check.due("no rest from before", x.rule(2, 2), -1);
        Check.due("no longest from before", x.rule(2, 3), -1);
        Check.right(x, "v2:0-9,1a,1b;", 1);
        Check.right(x, "v2:0-9,1a;", 1);
        Check.due("no needs from before", x.rule(2, 4), 1);
        Check.right(x, "", 0);
        Check.unknown("rule(2, 0)", () -> x.rule(2, 0));
        nothingOlderComesBack();
    }

    /** What several texts ago told must be gone, too, wherever it was kept. */
    private static void nothingOlderComesBack() {
        CrewRules x = new CrewRules();
        x.join(0, 5);
        x.skill(5, 1, 9);
        for (int i = 0; i < 4; i++) {
            Check.right(x, "v1:0-9~1^48,0a,0b;v3:0-0;sa=b[0-23];", 2);
        }
        Check.wrongAt(x, "sa=b[0-23];x", 11);
        for (int i = 0; i < 4; i++) {
            Check.right(x, "v1:0-9,1a;", 1);
            Check.due("the rest", x.rule(1, 2), -1);
            Check.due("the longest", x.rule(1, 3), -1);
            Check.due("the needs", x.rule(1, 4), 1);
            Check.due("no substitute", x.verdict(0, 0), 10);
            Check.unknown("rule(3, 0)", () -> x.rule(3, 0));
        }
        StringBuilder ten = new StringBuilder();
        for (int i = 0; i < 10; i++) {
            ten.append("sa=c[1-2];");
        }
        for (int i = 0; i < 4; i++) {
            Check.right(x, ten.toString(), 0);
        }
    }
}
