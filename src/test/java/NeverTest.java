/** Promises 15, 16: never, rule. */
public final class NeverTest {
    public static void main(String[] args) {
        refusals();
        tooFewWithSomeSkill();
        needsOfTooMany();
        kindsRise();
        rules();
        Check.end();
    }

    private static void refusals() {
        CrewRules x = Check.with("v1:9-9;");
        for (int hour : new int[] {-1, 100_000, Integer.MIN_VALUE, Integer.MAX_VALUE}) {
            Check.range("never(" + hour + ", 0)", () -> x.never(hour, 0));
            Check.range("never(" + hour + ", -1)", () -> x.never(hour, -1));
        }
        for (int i : new int[] {-1, Integer.MIN_VALUE}) {
            Check.range("never(0, " + i + ")", () -> x.never(0, i));
        }
        Check.due("never(99999, 0)", x.never(99_999, 0), 1);
        Check.due("never(99999, 1)", x.never(99_999, 1), 0);
        Check.due("far beyond", x.never(0, Integer.MAX_VALUE), 0);
    }

    private static void tooFewWithSomeSkill() {
        CrewRules x = Check.with("v1:2-9;v2:0-0;");
        Check.due("none has a skill", x.never(0, 0), 1);
        x.skill(49, 9, 10);
        x.skill(49, 8, 10);
        Check.due("one has two skills", x.never(0, 0), 1);
        x.skill(0, 0, 5);
        Check.due("two have one", x.never(4, 0), 0);
        Check.due("one has ended", x.never(5, 0), 1);
        x.person(0, 0, 1);
        Check.due("a learner is a person with a skill", x.never(4, 0), 0);
        x.join(0, 0);
        x.join(1, 0);
        Check.due("crews do not matter", x.never(4, 0), 0);
    }

    private static void needsOfTooMany() {
        CrewRules x = Check.with("v4:0-9,2a>5;v6:0-9,=1a;sa=b[6-8];v7:0-9,=0a,0b;");
        Check.due("first", x.never(0, 0), 4);
        Check.due("second", x.never(0, 1), 6);
        Check.due("no third", x.never(0, 2), 0);
        x.skill(1, 0, 100);
        x.person(1, 5, 0);
        Check.due("one is enough for kind 6", x.never(0, 1), 0);
        x.skill(2, 0, 100);
        x.person(2, 4, 0);
        Check.due("a rank too low", x.never(0, 0), 4);
        x.person(2, 5, 0);
        Check.due("two with the rank; more than just so many can be left out", x.never(0, 0), 0);
        x.person(2, 5, 1);
        Check.due("a learner", x.never(0, 0), 4);
        x.person(2, 5, 2);
        x.skill(2, 0, 0);
        x.skill(2, 1, 100);
        Check.due("before the substitute", x.never(5, 0), 4);
        Check.due("with the substitute", x.never(6, 0), 0);
        Check.due("with the substitute", x.never(8, 0), 0);
        Check.due("after the substitute", x.never(9, 0), 4);
        Check.due("with the substitute, another day", x.never(80, 0), 0);
        x.skill(1, 0, 7);
        Check.due("one has ended", x.never(7, 0), 4);
        Check.due("the substitute is enough for kind 6", x.never(7, 1), 0);
    }

    private static void kindsRise() {
        CrewRules x = Check.with("v9:1-1;v5:1-1;v7:0-1;v1:0-1,1a,1b;v3:0-1,0a,1j;");
        int[] due = {1, 3, 5, 9, 0, 0};
        for (int i = 0; i < due.length; i++) {
            Check.due("never(0, " + i + ")", x.never(0, i), due[i]);
        }
        x.skill(3, 0, 9);
        int[] later = {1, 3, 0};
        for (int i = 0; i < later.length; i++) {
            Check.due("never(0, " + i + ")", x.never(0, i), later[i]);
        }
    }

    private static void rules() {
        CrewRules x = Check.with("v9:0-9~24^48,=1a,1b>2;v1:3-4;v2:5-5~0;v3:6-8^1,1a,1a,1a,1a,1a,1a;");
        int[][] due = {{9, 0, 9, 24, 48, 2}, {1, 3, 4, -1, -1, 0}, {2, 5, 5, 0, -1, 0}, {3, 6, 8, -1, 1, 6}};
        for (int[] row : due) {
            for (int what = 0; what < 5; what++) {
                Check.due("rule(" + row[0] + ", " + what + ")", x.rule(row[0], what), row[what + 1]);
            }
            for (int what : new int[] {-1, 5, Integer.MIN_VALUE, Integer.MAX_VALUE}) {
                Check.unknown("rule(" + row[0] + ", " + what + ")", () -> x.rule(row[0], what));
            }
        }
        for (int kind : new int[] {-1, 0, 4, 8, 10, Integer.MIN_VALUE, Integer.MAX_VALUE}) {
            Check.unknown("rule(" + kind + ", 0)", () -> x.rule(kind, 0));
        }
    }
}
