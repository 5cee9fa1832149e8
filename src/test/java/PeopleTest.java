/** Promises 5, 6, 7: person, skill, duty. */
public final class PeopleTest {
    private static final int[] NO_PERSONS = {-1, 50, Integer.MIN_VALUE, Integer.MAX_VALUE};

    public static void main(String[] args) {
        personRefuses();
        personTakes();
        skillRefuses();
        skillTakes();
        dutyRefuses();
        dutyTakes();
        Check.end();
    }

    private static void personRefuses() {
        CrewRules x = new CrewRules();
        for (int p : NO_PERSONS) {
            Check.unknown("person(" + p + ", 0, 0)", () -> x.person(p, 0, 0));
            Check.unknown("unknown goes before range", () -> x.person(p, 10, 4));
        }
        x.join(0, 3);
        x.join(0, 4);
        x.person(4, 5, 0);
        for (int bad : new int[] {-1, 10, Integer.MIN_VALUE, Integer.MAX_VALUE}) {
            Check.range("person(3, " + bad + ", 1)", () -> x.person(3, bad, 1));
        }
        for (int bad : new int[] {-1, 4, Integer.MIN_VALUE, Integer.MAX_VALUE}) {
            Check.range("person(3, 9, " + bad + ")", () -> x.person(3, 9, bad));
        }
        Check.due("refused marks change nothing", x.counts(0), 2);
        Check.due("refused ranks change nothing", x.leader(0), 4);
    }

    private static void personTakes() {
        CrewRules x = new CrewRules();
        for (int p : new int[] {0, 49}) {
            x.person(p, 9, 2);
            x.skill(p, 0, 1);
            x.join(0, p);
            Check.due("rank 9", x.having(0, 0, 9, 0), 1);
            x.person(p, 8, 0);
            Check.due("rank 8", x.having(0, 0, 9, 0), 0);
            Check.due("rank 8", x.having(0, 0, 8, 0), 1);
            x.person(p, 9, 1);
            Check.due("a learner alone", x.counts(0), 0);
            x.person(p, 9, 3);
            Check.due("a learner and mentor alone", x.counts(0), 0);
            x.person(p, 9, 2);
            Check.due("a mentor", x.counts(0), 1);
            x.leave(0, p);
        }
    }

    private static void skillRefuses() {
        CrewRules x = new CrewRules();
        for (int p : NO_PERSONS) {
            Check.unknown("skill(" + p + ", 0, 0)", () -> x.skill(p, 0, 0));
            Check.unknown("unknown goes before range", () -> x.skill(p, 0, -1));
        }
        x.join(0, 3);
        x.skill(3, 9, 7);
        for (int bad : new int[] {-1, 10, Integer.MIN_VALUE, Integer.MAX_VALUE}) {
            Check.unknown("skill(3, " + bad + ", 0)", () -> x.skill(3, bad, 0));
            Check.unknown("unknown goes before range", () -> x.skill(3, bad, 100_000));
        }
        for (int bad : new int[] {-1, 100_000, Integer.MIN_VALUE, Integer.MAX_VALUE}) {
            Check.range("skill(3, 9, " + bad + ")", () -> x.skill(3, 9, bad));
        }
        Check.due("refused hours change nothing", x.having(0, 9, 0, 6), 1);
        Check.due("refused hours change nothing", x.having(0, 9, 0, 7), 0);
    }

    private static void skillTakes() {
        CrewRules x = new CrewRules();
        x.join(0, 0);
        x.join(0, 49);
        for (int skill = 0; skill < 10; skill++) {
            x.skill(49, skill, 100 + skill);
        }
        x.skill(0, 0, 99_999);
        for (int skill = 1; skill < 10; skill++) {
            Check.due("before its end", x.having(0, skill, 0, 99 + skill), 1);
            Check.due("at its end", x.having(0, skill, 0, 100 + skill), 0);
        }
        Check.due("the last hours", x.having(0, 0, 0, 99_998), 1);
        Check.due("the last hours", x.having(0, 0, 0, 99_999), 0);
        x.skill(0, 0, 1);
        Check.due("up to hour 1", x.having(0, 0, 0, 0), 2);
        x.skill(0, 0, 0);
        Check.due("taken away", x.having(0, 0, 0, 0), 1);
    }

    private static void dutyRefuses() {
        CrewRules x = Check.with("v1:1-1~5^5;");
        for (int p : NO_PERSONS) {
            Check.unknown("duty(" + p + ", 0, 0)", () -> x.duty(p, 0, 0));
            Check.unknown("unknown goes before range", () -> x.duty(p, -2, -2));
        }
        x.join(0, 3);
        x.duty(3, 10, 5);
        for (int bad : new int[] {-2, 100_000, Integer.MIN_VALUE, Integer.MAX_VALUE}) {
            Check.range("duty(3, " + bad + ", -1)", () -> x.duty(3, bad, -1));
            Check.range("duty(3, -1, " + bad + ")", () -> x.duty(3, -1, bad));
            Check.range("duty(3, 99999, " + bad + ")", () -> x.duty(3, 99_999, bad));
        }
        Check.range("duty(3, 11, 12)", () -> x.duty(3, 11, 12));
        Check.range("duty(3, 0, 1)", () -> x.duty(3, 0, 1));
        Check.due("refused duties change nothing", x.verdict(0, 10), 0);
        Check.due("refused duties change nothing", x.verdict(0, 9), 6);
    }

    private static void dutyTakes() {
        CrewRules x = Check.with("v1:1-1~1^48;v2:1-1~1;");
        x.join(0, 49);
        x.duty(49, 7, 7);
        Check.due("the end at the begin", x.verdict(0, 7), 5);
        x.duty(49, 99_999, 99_998);
        Check.due("the last hours", x.verdict(0, 99_999), 0);
        x.duty(49, -1, 99_999);
        Check.due("no duty", x.verdict(0, 99_999), 6);
        x.kind(0, 2);
        Check.due("no duty, only a rest told", x.verdict(0, 99_999), 0);
        x.kind(0, 1);
        x.duty(49, 0, -1);
        Check.due("none before", x.verdict(0, 0), 0);
        x.duty(49, 0, 0);
        Check.due("hour 0 is told", x.verdict(0, 0), 5);
        x.duty(49, -1, -1);
        Check.due("none", x.verdict(0, 0), 6);
    }
}
