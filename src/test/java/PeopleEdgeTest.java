/** The boundary cases of promises 5 to 7 (person, skill, duty), a method for each sentence. */
public final class PeopleEdgeTest {
    public static void main(String[] args) {
        personsOfPerson();
        ranks();
        marks();
        marksOfLearnersAndMentors();
        personRefusesUnknownBeforeRange();
        personRefusedChangesNothing();
        personsOfSkill();
        skills();
        hoursOfSkill();
        skillsEndAtTheirHour();
        skillUpToHourZeroIsNone();
        skillRefusesUnknownBeforeRange();
        skillRefusedChangesNothing();
        personsOfDuty();
        hoursOfDuty();
        eachHourOfDutyMayBeNone();
        endsAfterTheBegin();
        dutyRefusesUnknownBeforeRange();
        dutyRefusedChangesNothing();
        Check.end();
    }

    private static void personsOfPerson() {
        Check.sentence("Promise 5", "Unknown: no such person");
        CrewRules x = new CrewRules();
        for (int p : Check.outside(0, 49)) {
            Check.unknown("person(" + p + ", 0, 0)", () -> x.person(p, 0, 0));
        }
        x.person(0, 1, 0);
        x.person(49, 2, 0);
        x.join(0, 0);
        x.join(0, 1);
        Check.due("person 0", x.leader(0), 0);
        x.join(0, 49);
        Check.due("person 49", x.leader(0), 49);
    }

    private static void ranks() {
        Check.sentence("Promise 5", "range: the rank");
        CrewRules x = new CrewRules();
        x.join(0, 1);
        x.skill(1, 0, 1);
        for (int bad : Check.outside(0, 9)) {
            Check.range("person(1, " + bad + ", 0)", () -> x.person(1, bad, 0));
        }
        x.person(1, 9, 0);
        Check.due("rank 9", x.having(0, 0, 9, 0), 1);
        x.person(1, 0, 0);
        Check.due("rank 0", x.having(0, 0, 0, 0), 1);
        Check.due("rank 0 is not 1", x.having(0, 0, 1, 0), 0);
    }

    private static void marks() {
        Check.sentence("Promise 5", "marks 0 .. 3");
        CrewRules x = new CrewRules();
        for (int bad : Check.outside(0, 3)) {
            Check.range("person(1, 0, " + bad + ")", () -> x.person(1, 0, bad));
        }
        for (int good = 0; good <= 3; good++) {
            int m = good;
            Check.due("person(1, 0, " + m + ")", Check.thrownBy(() -> x.person(1, 0, m)) == null ? 1 : 0, 1);
        }
    }

    private static void marksOfLearnersAndMentors() {
        Check.sentence("Promise 5", "marks: 1 a learner, 2 a mentor");
        CrewRules x = new CrewRules();
        x.join(0, 1);
        x.join(0, 2);
        x.person(2, 0, 1);
        // How many count when person 2 learns and person 1 has the marks 0 to 3.
        int[] due = {1, 0, 2, 0};
        for (int round = 0; round < 2; round++) {
            for (int m = 0; m <= 3; m++) {
                x.person(1, 0, m);
                Check.due("marks " + m, x.counts(0), due[m]);
            }
        }
    }

    private static void personRefusesUnknownBeforeRange() {
        Check.sentence("Terms, promise 5", "Refusals, in this order");
        CrewRules x = new CrewRules();
        for (int p : Check.outside(0, 49)) {
            Check.unknown("person(" + p + ", 10, 0)", () -> x.person(p, 10, 0));
            Check.unknown("person(" + p + ", 0, 4)", () -> x.person(p, 0, 4));
            Check.unknown("person(" + p + ", -1, -1)", () -> x.person(p, -1, -1));
        }
    }

    private static void personRefusedChangesNothing() {
        Check.sentence("Terms, promise 5", "What is refused changes nothing");
        CrewRules x = new CrewRules();
        x.join(0, 1);
        x.skill(1, 0, 1);
        x.person(1, 5, 2);
        x.person(2, 0, 1);
        x.join(0, 2);
        Check.range("the marks are wrong", () -> x.person(1, 6, 4));
        Check.range("the marks are wrong", () -> x.person(1, 4, -1));
        Check.range("the rank is wrong", () -> x.person(1, 10, 1));
        Check.range("the rank is wrong", () -> x.person(1, -1, 0));
        Check.due("the rank is 5", x.having(0, 0, 5, 0), 1);
        Check.due("the rank is not 6", x.having(0, 0, 6, 0), 0);
        Check.due("a mentor still", x.counts(0), 2);
    }

    private static void personsOfSkill() {
        Check.sentence("Promise 6", "Unknown: no such person");
        CrewRules x = new CrewRules();
        for (int p : Check.outside(0, 49)) {
            Check.unknown("skill(" + p + ", 0, 1)", () -> x.skill(p, 0, 1));
        }
        for (int p : new int[] {0, 49}) {
            x.skill(p, 0, 1);
            x.join(0, p);
            Check.due("person " + p, x.having(0, 0, 0, 0), 1);
            x.leave(0, p);
        }
        x.join(0, 1);
        x.join(0, 48);
        Check.due("not those beside them", x.having(0, 0, 0, 0), 0);
    }

    private static void skills() {
        Check.sentence("Promise 6", "A skill (0 a .. 9 j)");
        CrewRules x = new CrewRules();
        for (int skill : Check.outside(0, 9)) {
            Check.unknown("skill(0, " + skill + ", 1)", () -> x.skill(0, skill, 1));
        }
        for (int p = 0; p < 10; p++) {
            x.join(0, p);
        }
        for (int skill = 0; skill <= 9; skill++) {
            x.skill(3, skill, 1);
            for (int other = 0; other <= 9; other++) {
                Check.due("having " + other, x.having(0, other, 0, 0), other == skill ? 1 : 0);
            }
            x.skill(3, skill, 0);
        }
    }

    private static void hoursOfSkill() {
        Check.sentence("Promise 6", "range: the hour");
        CrewRules x = new CrewRules();
        for (int hour : Check.outside(0, 99_999)) {
            Check.range("skill(0, 0, " + hour + ")", () -> x.skill(0, 0, hour));
        }
        x.join(0, 0);
        x.skill(0, 0, 99_999);
        Check.due("up to the last hour", x.having(0, 0, 0, 99_998), 1);
        x.skill(0, 0, 0);
        Check.due("up to the first hour", x.having(0, 0, 0, 0), 0);
    }

    private static void skillsEndAtTheirHour() {
        Check.sentence("Terms, promise 6", "skills, each up to an hour (itself not");
        CrewRules x = new CrewRules();
        x.join(0, 0);
        for (int until : new int[] {1, 24, 500, 99_999}) {
            x.skill(0, 4, until);
            Check.due("at first, up to " + until, x.having(0, 4, 0, 0), 1);
            Check.due("an hour before " + until, x.having(0, 4, 0, until - 1), 1);
            Check.due("at " + until, x.having(0, 4, 0, until), 0);
            Check.due("at last, up to " + until, x.having(0, 4, 0, 99_999), 0);
        }
    }

    private static void skillUpToHourZeroIsNone() {
        Check.sentence("Promise 6", "(0: none)");
        CrewRules x = Check.with("v1:1-1;");
        x.join(0, 0);
        x.skill(0, 4, 10);
        x.skill(0, 5, 10);
        x.skill(0, 4, 0);
        Check.due("taken away", x.having(0, 4, 0, 0), 0);
        Check.due("another one stays", x.having(0, 5, 0, 0), 1);
        Check.due("one with some skill", x.never(0, 0), 0);
        x.skill(0, 5, 0);
        Check.due("none with some skill", x.never(0, 0), 1);
    }

    private static void skillRefusesUnknownBeforeRange() {
        Check.sentence("Terms, promise 6", "Refusals, in this order");
        CrewRules x = new CrewRules();
        for (int hour : Check.outside(0, 99_999)) {
            Check.unknown("skill(50, 0, " + hour + ")", () -> x.skill(50, 0, hour));
            Check.unknown("skill(-1, 0, " + hour + ")", () -> x.skill(-1, 0, hour));
            Check.unknown("skill(0, 10, " + hour + ")", () -> x.skill(0, 10, hour));
            Check.unknown("skill(0, -1, " + hour + ")", () -> x.skill(0, -1, hour));
        }
    }

    private static void skillRefusedChangesNothing() {
        Check.sentence("Terms, promise 6", "What is refused changes nothing");
        CrewRules x = new CrewRules();
        for (int p = 0; p < 3; p++) {
            x.join(0, p);
        }
        x.skill(1, 0, 10);
        Check.range("skill(1, 0, 100000)", () -> x.skill(1, 0, 100_000));
        Check.range("skill(1, 0, -1)", () -> x.skill(1, 0, -1));
        // A skill beside the row of a person must not reach the next or the last one's.
        Check.unknown("skill(1, 10, 50)", () -> x.skill(1, 10, 50));
        Check.unknown("skill(1, -1, 50)", () -> x.skill(1, -1, 50));
        Check.due("before its end", x.having(0, 0, 0, 9), 1);
        Check.due("at its end", x.having(0, 0, 0, 10), 0);
        Check.due("the last skill of another", x.having(0, 9, 0, 0), 0);
    }

    private static void personsOfDuty() {
        Check.sentence("Promise 7", "Unknown: no such person");
        CrewRules x = Check.with("v1:1-1^1;");
        for (int p : Check.outside(0, 49)) {
            Check.unknown("duty(" + p + ", 0, 0)", () -> x.duty(p, 0, 0));
        }
        for (int p : new int[] {0, 49}) {
            x.join(0, p);
            Check.due("before", x.verdict(0, 5), 6);
            x.duty(p, 5, -1);
            Check.due("person " + p, x.verdict(0, 5), 0);
            x.leave(0, p);
        }
    }

    private static void hoursOfDuty() {
        Check.sentence("Promise 7", "range: the hours");
        CrewRules x = Check.with("v1:1-1~1^48;");
        for (int hour : Check.outside(-1, 99_999)) {
            Check.range("duty(0, " + hour + ", -1)", () -> x.duty(0, hour, -1));
            Check.range("duty(0, -1, " + hour + ")", () -> x.duty(0, -1, hour));
            Check.range("duty(0, 99999, " + hour + ")", () -> x.duty(0, 99_999, hour));
            Check.range("duty(0, " + hour + ", " + hour + ")", () -> x.duty(0, hour, hour));
        }
        x.join(0, 0);
        x.duty(0, 0, -1);
        Check.due("from hour 0 on", x.verdict(0, 48), 0);
        x.duty(0, 0, 0);
        Check.due("an end at hour 0", x.verdict(0, 0), 5);
        x.duty(0, 99_999, 99_998);
        Check.due("from the last hour on", x.verdict(0, 99_999), 0);
        x.duty(0, 99_999, 99_999);
        Check.due("an end at the last hour", x.verdict(0, 99_999), 5);
    }

    private static void eachHourOfDutyMayBeNone() {
        Check.sentence("Promise 7", "(each -1: none)");
        CrewRules x = Check.with("v1:1-1~24^48;v2:1-1~24;");
        x.join(0, 0);
        x.duty(0, 10, -1);
        Check.due("none before", x.verdict(0, 10), 0);
        x.duty(0, -1, 10);
        Check.due("no begin", x.verdict(0, 10), 6);
        x.duty(0, 10, 5);
        x.duty(0, -1, -1);
        Check.due("neither", x.verdict(0, 10), 6);
        x.kind(0, 2);
        Check.due("neither, with a rest told", x.verdict(0, 10), 0);
        x.duty(0, -1, 99_999);
        Check.due("the last end without a begin", x.verdict(0, 10), 0);
    }

    private static void endsAfterTheBegin() {
        Check.sentence("Promise 7", "or the end is after the begin");
        CrewRules x = Check.with("v1:1-1~1;");
        x.join(0, 0);
        Check.range("duty(0, 10, 11)", () -> x.duty(0, 10, 11));
        Check.range("duty(0, 0, 1)", () -> x.duty(0, 0, 1));
        Check.range("duty(0, 99998, 99999)", () -> x.duty(0, 99_998, 99_999));
        x.duty(0, 10, 10);
        Check.due("the end at the begin", x.verdict(0, 10), 5);
        x.duty(0, 10, 9);
        Check.due("the end before the begin", x.verdict(0, 10), 0);
    }

    private static void dutyRefusesUnknownBeforeRange() {
        Check.sentence("Terms, promise 7", "Refusals, in this order");
        CrewRules x = new CrewRules();
        for (int p : Check.outside(0, 49)) {
            Check.unknown("duty(" + p + ", -2, -1)", () -> x.duty(p, -2, -1));
            Check.unknown("duty(" + p + ", -1, 100000)", () -> x.duty(p, -1, 100_000));
            Check.unknown("duty(" + p + ", 1, 2)", () -> x.duty(p, 1, 2));
        }
    }

    private static void dutyRefusedChangesNothing() {
        Check.sentence("Terms, promise 7", "What is refused changes nothing");
        CrewRules x = Check.with("v1:1-1~5^5;v2:1-1~6;");
        x.join(0, 0);
        x.duty(0, 10, 5);
        Check.range("the begin is wrong", () -> x.duty(0, 100_000, 1));
        Check.range("the begin is wrong", () -> x.duty(0, -2, -1));
        Check.range("the end is wrong", () -> x.duty(0, 12, -2));
        Check.range("the end is wrong", () -> x.duty(0, 8, 100_000));
        Check.range("the end is after the begin", () -> x.duty(0, 8, 9));
        Check.due("it begins", x.verdict(0, 10), 0);
        Check.due("it has not begun", x.verdict(0, 9), 6);
        Check.due("it is long", x.verdict(0, 16), 6);
        x.kind(0, 2);
        Check.due("the end before is as it was", x.verdict(0, 10), 5);
    }
}
