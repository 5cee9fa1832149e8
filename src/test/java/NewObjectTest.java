/** Promise 1 and the first values that the terms name, a method for each sentence. */
public final class NewObjectTest {
    public static void main(String[] args) {
        noRules();
        personsWithoutSkills();
        emptyCrews();
        ranksAtFirst();
        marksAtFirst();
        dutiesAtFirst();
        kindsAtFirst();
        tapeAtFirst();
        objectsAreApart();
        Check.end();
    }

    private static void noRules() {
        Check.sentence("Promise 1", "No rules");
        CrewRules x = new CrewRules();
        for (int kind = 1; kind <= 9; kind++) {
            int k = kind;
            Check.unknown("rule(" + k + ", 0)", () -> x.rule(k, 0));
            x.kind(0, k);
            Check.due("verdict on kind " + k, x.verdict(0, 0), 1);
        }
        Check.due("never(0, 0)", x.never(0, 0), 0);
        Check.due("place()", x.place(), -1);
    }

    private static void personsWithoutSkills() {
        Check.sentence("Promise 1", "persons without skills");
        CrewRules x = new CrewRules();
        for (int p = 0; p < 50; p++) {
            x.join(p / 10, p);
        }
        for (int crew = 0; crew < 5; crew++) {
            for (int skill = 0; skill < 10; skill++) {
                Check.due("having(" + crew + ", " + skill + ")", x.having(crew, skill, 0, 0), 0);
            }
        }
        Check.right(x, "v7:1-1;", 1);
        Check.due("nobody has a skill", x.never(0, 0), 7);
    }

    private static void emptyCrews() {
        Check.sentence("Promise 1", "empty crews");
        CrewRules x = new CrewRules();
        for (int crew = 0; crew < 20; crew++) {
            int c = crew;
            Check.due("counts(" + c + ")", x.counts(c), 0);
            Check.due("leader(" + c + ")", x.leader(c), -1);
            Check.state("leave(" + c + ", 0)", () -> x.leave(c, 0));
            Check.state("leave(" + c + ", 49)", () -> x.leave(c, 49));
            Check.due("join(" + c + ", " + c + ")", x.join(c, c), 1);
        }
    }

    private static void ranksAtFirst() {
        Check.sentence("Terms, promise 1", "have a rank (0 .. 9; 0 at first)");
        CrewRules x = new CrewRules();
        for (int p = 0; p < 50; p++) {
            x.join(0, p);
            x.skill(p, 0, 1);
            Check.due("rank 0 of " + p, x.having(0, 0, 0, 0), 1);
            Check.due("rank 1 of " + p, x.having(0, 0, 1, 0), 0);
            x.leave(0, p);
        }
    }

    private static void marksAtFirst() {
        Check.sentence("Terms, promise 1", "are LEARNERS or not, MENTORS or not");
        CrewRules x = new CrewRules();
        x.person(0, 0, 1);
        for (int p = 1; p < 50; p++) {
            x.join(0, p);
            Check.due("no learner at first: " + p, x.counts(0), 1);
            x.join(0, 0);
            Check.due("no mentor at first: " + p, x.counts(0), 1);
            x.leave(0, 0);
            x.leave(0, p);
        }
    }

    private static void dutiesAtFirst() {
        Check.sentence("Terms, promise 1", "have a DUTY: from an hour on (-1 none), and the end of the duty before it (-1 none)");
        CrewRules x = Check.with("v1:0-9~24;v2:0-9^48;");
        for (int p = 0; p < 50; p++) {
            x.join(0, p);
            Check.due("no rest that is too short: " + p, x.verdict(0, 99_999), 0);
            x.join(1, p);
            x.leave(0, p);
            x.kind(1, 2);
            Check.due("no duty: " + p, x.verdict(1, 99_999), 6);
            x.leave(1, p);
        }
    }

    private static void kindsAtFirst() {
        Check.sentence("Terms, promise 1", "have a kind (1 .. 9; 1 at first)");
        CrewRules x = Check.with("v1:0-0;");
        CrewRules y = Check.with("v2:0-0;v3:0-0;v4:0-0;v5:0-0;v6:0-0;v7:0-0;v8:0-0;v9:0-0;");
        for (int crew = 0; crew < 20; crew++) {
            Check.due("verdict(" + crew + ", 0)", x.verdict(crew, 0), 0);
            Check.due("verdict(" + crew + ", 0) without a rule for kind 1", y.verdict(crew, 0), 1);
        }
    }

    private static void tapeAtFirst() {
        Check.sentence("Promise 1", "No rules");
        CrewRules x = new CrewRules();
        Check.due("read() of the tape as it is made", x.read(), 0);
        Check.due("the first byte", new CrewRules().sign(' ', 1), 1);
    }

    private static void objectsAreApart() {
        Check.sentence("Promise 1", "No rules; persons without skills; empty crews.");
        CrewRules x = Check.with("v1:1-1;sa=b[0-23];");
        x.join(0, 0);
        x.skill(0, 1, 99);
        x.sign('v', 1);
        CrewRules y = new CrewRules();
        Check.due("counts of another object", y.counts(0), 0);
        Check.unknown("rule of another object", () -> y.rule(1, 0));
        y.join(0, 0);
        Check.due("skills of another object", y.having(0, 1, 0, 0), 0);
        Check.due("the tape of another object", y.sign(' ', 1), 1);
    }
}
