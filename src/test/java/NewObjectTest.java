/** Promise 1: no rules, persons without skills, empty crews, and the first values of the terms. */
public final class NewObjectTest {
    public static void main(String[] args) {
        CrewRules x = new CrewRules();
        Check.due("place()", x.place(), -1);
        for (int kind = 1; kind <= 9; kind++) {
            int k = kind;
            Check.unknown("rule(" + k + ", 0)", () -> x.rule(k, 0));
        }
        Check.due("never(0, 0)", x.never(0, 0), 0);
        for (int crew = 0; crew < 20; crew++) {
            int c = crew;
            Check.due("counts(" + c + ")", x.counts(c), 0);
            Check.due("leader(" + c + ")", x.leader(c), -1);
            Check.due("verdict(" + c + ", 0)", x.verdict(c, 0), 1);
            Check.state("leave(" + c + ", 0)", () -> x.leave(c, 0));
        }
        personsAreBare();
        crewsAreOfKindOne();
        objectsAreApart();
        Check.end();
    }

    private static void personsAreBare() {
        CrewRules x = Check.with("v1:0-9^48;");
        for (int p = 0; p < 12; p++) {
            x.join(0, p);
        }
        for (int skill = 0; skill < 10; skill++) {
            Check.due("having " + skill, x.having(0, skill, 0, 0), 0);
        }
        Check.due("no learners at first", x.counts(0), 12);
        Check.due("ranks are 0 at first", x.leader(0), 0);
        for (int p = 3; p < 12; p++) {
            x.leave(0, p);
        }
        Check.due("no duty at first", x.verdict(0, 99_999), 6);
        x.duty(0, 0, -1);
        x.duty(1, 0, -1);
        x.duty(2, 0, -1);
        Check.due("on duty now", x.verdict(0, 48), 0);
    }

    private static void crewsAreOfKindOne() {
        CrewRules x = Check.with("v1:0-0;");
        for (int crew = 0; crew < 20; crew++) {
            Check.due("verdict(" + crew + ")", x.verdict(crew, 0), 0);
        }
        CrewRules y = Check.with("v2:0-0;v3:0-0;v4:0-0;v5:0-0;v6:0-0;v7:0-0;v8:0-0;v9:0-0;");
        Check.due("no rule for kind 1", y.verdict(19, 0), 1);
    }

    private static void objectsAreApart() {
        CrewRules x = Check.with("v1:1-1;");
        CrewRules y = new CrewRules();
        x.join(0, 0);
        Check.due("counts of another object", y.counts(0), 0);
        Check.unknown("rule of another object", () -> y.rule(1, 0));
    }
}
