/** Promises 11, 13: verdict, having; and the substitutes. */
public final class VerdictTest {
    public static void main(String[] args) {
        refusals();
        numbersThatCount();
        rests();
        longDuties();
        needs();
        exactNeeds();
        learnersAndNeeds();
        substituteHours();
        substitutesDoNotChain();
        theFirstFaultIsTold();
        Check.end();
    }

    private static void refusals() {
        CrewRules x = new CrewRules();
        for (int crew : new int[] {-1, 20, Integer.MIN_VALUE, Integer.MAX_VALUE}) {
            Check.unknown("verdict(" + crew + ", 0)", () -> x.verdict(crew, 0));
            Check.unknown("unknown goes before range", () -> x.verdict(crew, -1));
            Check.unknown("having(" + crew + ", 0, 0, 0)", () -> x.having(crew, 0, 0, 0));
            Check.unknown("unknown goes before range", () -> x.having(crew, 0, -1, -1));
        }
        for (int hour : new int[] {-1, 100_000, Integer.MIN_VALUE, Integer.MAX_VALUE}) {
            Check.range("verdict(0, " + hour + ")", () -> x.verdict(0, hour));
            Check.range("having(0, 0, 0, " + hour + ")", () -> x.having(0, 0, 0, hour));
        }
        for (int bad : new int[] {-1, 10, Integer.MIN_VALUE, Integer.MAX_VALUE}) {
            Check.unknown("having(0, " + bad + ", 0, 0)", () -> x.having(0, bad, 0, 0));
            Check.unknown("unknown goes before range", () -> x.having(0, bad, 10, 100_000));
            Check.range("having(0, 0, " + bad + ", 0)", () -> x.having(0, 0, bad, 0));
        }
        Check.due("the last hour", x.verdict(0, 99_999), 1);
        Check.due("the last of all", x.having(19, 9, 9, 99_999), 0);
    }

    private static void numbersThatCount() {
        CrewRules x = Check.with("v1:2-3;");
        int[] due = {3, 3, 0, 0, 4};
        for (int p = 0; p < due.length; p++) {
            Check.due("with " + p, x.verdict(0, 0), due[p]);
            x.join(0, p);
        }
        x.person(0, 0, 1);
        x.person(1, 0, 1);
        x.person(2, 0, 1);
        x.person(3, 0, 1);
        Check.due("learners without a mentor", x.verdict(0, 0), 3);
        x.person(4, 0, 2);
        Check.due("learners with a mentor", x.verdict(0, 0), 4);
    }

    private static void rests() {
        CrewRules x = Check.with("v1:0-9~8;v2:0-9~0;v3:0-9;");
        x.join(0, 1);
        Check.due("nothing told", x.verdict(0, 0), 0);
        x.duty(1, 20, 12);
        Check.due("8 hours", x.verdict(0, 30), 0);
        x.duty(1, 20, 13);
        Check.due("7 hours", x.verdict(0, 30), 5);
        Check.due("7 hours, a duty to come", x.verdict(0, 3), 5);
        x.kind(0, 2);
        Check.due("a rest of 0", x.verdict(0, 30), 0);
        x.kind(0, 3);
        Check.due("no rest told", x.verdict(0, 30), 0);
        x.kind(0, 1);
        x.person(1, 0, 1);
        Check.due("a learner who does not count", x.verdict(0, 30), 0);
        x.person(2, 0, 2);
        x.join(0, 2);
        Check.due("a learner who counts", x.verdict(0, 30), 5);
        x.duty(1, -1, 13);
        Check.due("no begin", x.verdict(0, 30), 0);
        x.duty(1, 14, -1);
        Check.due("no end before", x.verdict(0, 30), 0);
    }

    private static void longDuties() {
        CrewRules x = Check.with("v1:0-9^8;v3:0-9;");
        Check.due("nobody", x.verdict(0, 0), 0);
        x.join(0, 1);
        Check.due("no duty", x.verdict(0, 0), 6);
        x.duty(1, 20, 20);
        Check.due("a duty to come", x.verdict(0, 19), 6);
        Check.due("it begins", x.verdict(0, 20), 0);
        Check.due("8 hours", x.verdict(0, 28), 0);
        Check.due("9 hours", x.verdict(0, 29), 6);
        x.kind(0, 3);
        Check.due("no longest told", x.verdict(0, 29), 0);
        x.kind(0, 1);
        x.person(1, 0, 1);
        Check.due("a learner who does not count", x.verdict(0, 29), 0);
        x.person(2, 0, 2);
        x.duty(2, 29, -1);
        x.join(0, 2);
        Check.due("a learner who counts", x.verdict(0, 29), 6);
    }

    private static void needs() {
        CrewRules x = Check.with("v1:0-9,2a>3,0b,1c,1d,1e,1f;");
        x.join(0, 1);
        x.join(0, 2);
        x.person(1, 3, 0);
        x.person(2, 2, 0);
        x.skill(1, 0, 100);
        x.skill(2, 0, 100);
        Check.due("one has the rank", x.verdict(0, 0), 10);
        Check.due("having with the rank", x.having(0, 0, 3, 0), 1);
        Check.due("having with a lower one", x.having(0, 0, 2, 0), 2);
        x.person(2, 9, 0);
        Check.due("both have a rank", x.verdict(0, 0), 12);
        x.skill(1, 2, 100);
        Check.due("need 3", x.verdict(0, 0), 13);
        x.skill(1, 3, 100);
        Check.due("need 4", x.verdict(0, 0), 14);
        x.skill(1, 4, 100);
        Check.due("need 5", x.verdict(0, 0), 15);
        x.skill(2, 5, 50);
        x.skill(2, 1, 50);
        Check.due("all met", x.verdict(0, 0), 0);
        Check.due("the hour before an end", x.verdict(0, 49), 0);
        Check.due("a skill ends", x.verdict(0, 50), 15);
        x.skill(2, 5, 100);
        Check.due("all skills end", x.verdict(0, 100), 10);
    }

    private static void exactNeeds() {
        CrewRules x = Check.with("v1:0-9,=1a,=0b>5;");
        for (int p = 1; p <= 3; p++) {
            x.join(0, p);
        }
        Check.due("none", x.verdict(0, 0), 10);
        x.skill(1, 0, 9);
        Check.due("one", x.verdict(0, 0), 0);
        x.skill(2, 0, 9);
        Check.due("two", x.verdict(0, 0), 10);
        x.skill(2, 0, 5);
        Check.due("one again", x.verdict(0, 5), 0);
        x.skill(3, 1, 9);
        Check.due("a rank too low for a need of none", x.verdict(0, 5), 0);
        x.person(3, 5, 0);
        Check.due("one too many", x.verdict(0, 5), 11);
    }

    private static void learnersAndNeeds() {
        CrewRules x = Check.with("v1:0-9,1a;v2:0-9,=0a;");
        x.join(0, 1);
        x.join(0, 2);
        x.skill(1, 0, 9);
        x.person(1, 9, 1);
        x.person(2, 0, 2);
        Check.due("the learner counts", x.counts(0), 2);
        Check.due("not for the need", x.verdict(0, 0), 10);
        Check.due("nor as having", x.having(0, 0, 0, 0), 0);
        x.kind(0, 2);
        Check.due("nor as one too many", x.verdict(0, 0), 0);
        x.kind(0, 1);
        x.person(1, 9, 3);
        Check.due("a mentor who learns does not", x.verdict(0, 0), 10);
        x.person(1, 9, 2);
        Check.due("a mentor does", x.verdict(0, 0), 0);
        x.join(1, 1);
        Check.due("having in two crews", x.having(0, 0, 0, 0), 0);
        Check.due("having in two crews", x.having(1, 0, 0, 0), 0);
    }

    private static void substituteHours() {
        CrewRules x = Check.with("v1:0-9,1d;sd=c[22-5];sa=c[6-6];sb=c[8-10];sb=e[0-0];");
        x.join(0, 1);
        x.skill(1, 2, 99_999);
        for (int hour = 0; hour < 24; hour++) {
            int at = 24 * 1000 + hour;
            boolean night = hour >= 22 || hour <= 5;
            Check.due("through midnight, hour " + hour, x.having(0, 3, 0, at), night ? 1 : 0);
            Check.due("the verdict, hour " + hour, x.verdict(0, at), night ? 0 : 10);
            Check.due("one hour, hour " + hour, x.having(0, 0, 0, at), hour == 6 ? 1 : 0);
            Check.due("some hours, hour " + hour, x.having(0, 1, 0, at), hour >= 8 && hour <= 10 ? 1 : 0);
            Check.due("itself, hour " + hour, x.having(0, 2, 0, at), 1);
        }
        x.skill(1, 3, 99_999);
        Check.due("who has both counts once", x.having(0, 3, 0, 23), 1);
        Check.due("no substitute the other way", x.having(0, 4, 0, 23), 0);
        x.skill(1, 3, 0);
        x.skill(1, 2, 23);
        Check.due("a substitute that goes on", x.having(0, 3, 0, 22), 1);
        Check.due("a substitute that has ended", x.having(0, 3, 0, 23), 0);
    }

    private static void substitutesDoNotChain() {
        CrewRules x = Check.with("v1:0-9,1a;sa=b[0-23];sb=c[0-23];");
        x.join(0, 1);
        x.skill(1, 2, 99);
        Check.due("c for b", x.having(0, 1, 0, 0), 1);
        Check.due("c is none for a", x.having(0, 0, 0, 0), 0);
        Check.due("the verdict", x.verdict(0, 0), 10);
        x.skill(1, 1, 99);
        Check.due("b for a", x.verdict(0, 0), 0);
    }

    private static void theFirstFaultIsTold() {
        CrewRules x = Check.with("v1:2-2~5^5,1a;v2:0-0~5^5,1a;");
        x.kind(0, 3);
        x.join(0, 1);
        x.join(1, 1);
        x.duty(1, 10, 8);
        Check.due("1 before 2", x.verdict(0, 50), 1);
        x.kind(0, 1);
        Check.due("2 before 3", x.verdict(0, 50), 2);
        Check.due("2 in the other crew", x.verdict(1, 50), 2);
        x.leave(1, 1);
        Check.due("3 before 5", x.verdict(0, 50), 3);
        x.kind(0, 2);
        Check.due("4 before 5", x.verdict(0, 50), 4);
        x.kind(0, 1);
        x.join(0, 2);
        Check.due("5 of a later person before 6", x.verdict(0, 50), 5);
        x.duty(1, 10, 5);
        Check.due("6 before 10", x.verdict(0, 10), 6);
        x.duty(2, 10, 0);
        Check.due("10", x.verdict(0, 10), 10);
        x.skill(2, 0, 11);
        Check.due("0", x.verdict(0, 10), 0);
    }
}
