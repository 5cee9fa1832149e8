/** Promises 8, 9, 10, 12, 14: kind, join, leave, counts, leader. */
public final class CrewTest {
    private static final int[] NO_CREWS = {-1, 20, Integer.MIN_VALUE, Integer.MAX_VALUE};
    private static final int[] NO_PERSONS = {-1, 50, Integer.MIN_VALUE, Integer.MAX_VALUE};

    public static void main(String[] args) {
        kinds();
        joins();
        leaves();
        personsInTwoCrews();
        learners();
        leaders();
        Check.end();
    }

    private static void kinds() {
        CrewRules x = Check.with("v1:1-1;v9:0-0;");
        for (int crew : NO_CREWS) {
            Check.unknown("kind(" + crew + ", 1)", () -> x.kind(crew, 1));
            Check.unknown("unknown goes before range", () -> x.kind(crew, 0));
        }
        x.kind(19, 9);
        Check.due("of kind 9", x.verdict(19, 0), 0);
        for (int bad : new int[] {0, 10, -1, Integer.MIN_VALUE, Integer.MAX_VALUE}) {
            Check.range("kind(19, " + bad + ")", () -> x.kind(19, bad));
        }
        Check.due("still of kind 9", x.verdict(19, 0), 0);
        Check.due("another crew", x.verdict(18, 0), 3);
        x.kind(19, 8);
        Check.due("of kind 8", x.verdict(19, 0), 1);
    }

    private static void joins() {
        CrewRules x = new CrewRules();
        for (int crew : NO_CREWS) {
            Check.unknown("join(" + crew + ", 0)", () -> x.join(crew, 0));
        }
        for (int p : NO_PERSONS) {
            Check.unknown("join(0, " + p + ")", () -> x.join(0, p));
        }
        for (int i = 0; i < 12; i++) {
            Check.due("join(19, " + (49 - i) + ")", x.join(19, 49 - i), i + 1);
        }
        Check.noRoom("a thirteenth", () -> x.join(19, 0));
        Check.state("state goes before room", () -> x.join(19, 49));
        Check.unknown("unknown goes before room", () -> x.join(19, 50));
        Check.due("refused ones change nothing", x.counts(19), 12);
        Check.due("who was refused is in no crew", x.join(3, 0), 1);
        Check.due("who was refused counts", x.counts(3), 1);
        Check.due("leave(19, 40)", x.leave(19, 40), 11);
        Check.due("room again", x.join(19, 1), 12);
    }

    private static void leaves() {
        CrewRules x = new CrewRules();
        x.join(0, 0);
        x.join(0, 49);
        x.join(0, 32);
        for (int crew : NO_CREWS) {
            Check.unknown("leave(" + crew + ", 0)", () -> x.leave(crew, 0));
        }
        for (int p : NO_PERSONS) {
            Check.unknown("leave(0, " + p + ")", () -> x.leave(0, p));
        }
        Check.state("leave(0, 1)", () -> x.leave(0, 1));
        Check.state("leave(1, 0)", () -> x.leave(1, 0));
        Check.due("leave(0, 0)", x.leave(0, 0), 2);
        Check.state("leave(0, 0)", () -> x.leave(0, 0));
        Check.due("leave(0, 49)", x.leave(0, 49), 1);
        Check.due("join(0, 0)", x.join(0, 0), 2);
        Check.due("leave(0, 32)", x.leave(0, 32), 1);
        Check.due("leave(0, 0)", x.leave(0, 0), 0);
        Check.due("counts(0)", x.counts(0), 0);
    }

    private static void personsInTwoCrews() {
        CrewRules x = new CrewRules();
        for (int crew : NO_CREWS) {
            Check.unknown("counts(" + crew + ")", () -> x.counts(crew));
        }
        x.join(0, 1);
        x.join(0, 2);
        x.join(1, 2);
        x.join(2, 2);
        Check.due("in crew 0", x.counts(0), 1);
        Check.due("in crew 1", x.counts(1), 0);
        x.leave(0, 2);
        Check.due("in two still", x.counts(1), 0);
        x.leave(2, 2);
        Check.due("in one alone", x.counts(1), 1);
        Check.due("in crew 0", x.counts(0), 1);
        Check.due("how many join tells", x.join(1, 1), 2);
        Check.due("in crew 1", x.counts(1), 1);
    }

    private static void learners() {
        CrewRules x = new CrewRules();
        x.person(1, 0, 1);
        x.person(2, 0, 3);
        x.person(3, 0, 2);
        x.person(4, 0, 0);
        x.join(0, 1);
        x.join(0, 2);
        x.join(0, 4);
        Check.due("no mentor but a learner", x.counts(0), 1);
        x.join(0, 3);
        Check.due("with a mentor", x.counts(0), 4);
        x.join(1, 3);
        Check.due("the mentor does not count", x.counts(0), 1);
        x.leave(0, 3);
        Check.due("the mentor is elsewhere", x.counts(0), 1);
        x.join(1, 1);
        Check.due("a learner in two crews", x.counts(1), 1);
        x.leave(0, 1);
        Check.due("a learner with a mentor", x.counts(1), 2);
        x.person(3, 0, 3);
        Check.due("the mentor learns", x.counts(1), 0);
    }

    private static void leaders() {
        CrewRules x = new CrewRules();
        for (int crew : NO_CREWS) {
            Check.unknown("leader(" + crew + ")", () -> x.leader(crew));
        }
        x.person(9, 4, 0);
        x.person(7, 4, 0);
        x.person(8, 4, 2);
        x.person(1, 9, 1);
        x.person(2, 0, 0);
        x.join(5, 1);
        Check.due("a learner alone", x.leader(5), -1);
        x.join(5, 2);
        Check.due("rank 0", x.leader(5), 2);
        x.join(5, 9);
        Check.due("rank 4", x.leader(5), 9);
        x.join(5, 8);
        Check.due("the lower number; a learner does not lead", x.leader(5), 8);
        x.join(5, 7);
        Check.due("the lowest number", x.leader(5), 7);
        x.join(6, 7);
        Check.due("in two crews", x.leader(5), 8);
        Check.due("in two crews", x.leader(6), -1);
        x.person(2, 5, 0);
        Check.due("the highest rank", x.leader(5), 2);
    }
}
