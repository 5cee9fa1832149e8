/** The boundary cases of promises 15 and 16 (never, rule), a method for each sentence. */
public final class NeverEdgeTest {
    public static void main(String[] args) {
        neverRefusesNumbersBelowZero();
        neverRefusesHours();
        fromZeroOnRising();
        zeroWhenThereAreNotSoMany();
        kindsWithARuleOnly();
        moreAtLeastThanHaveSomeSkill();
        skillsThatHaveEnded();
        byAllPersonsTogether();
        needsOfMoreThanHaveIt();
        needsWithARank();
        substitutesCount();
        learnersDoNot();
        exactNeedsAreMetByFewer();
        partsOfARule();
        partsThatAreNotTold();
        noSuchKind();
        noRuleOfTheKind();
        noSuchPart();
        Check.end();
    }

    private static void neverRefusesNumbersBelowZero() {
        Check.sentence("Promise 15", "Range: i is below 0");
        CrewRules x = Check.with("v4:1-1;");
        Check.range("never(0, -1)", () -> x.never(0, -1));
        Check.range("never(0, least)", () -> x.never(0, Integer.MIN_VALUE));
        Check.range("without rules", () -> new CrewRules().never(0, -1));
        Check.due("never(0, 0)", x.never(0, 0), 4);
    }

    private static void neverRefusesHours() {
        Check.sentence("Promise 15", "Range: i is below 0, the hour.");
        CrewRules x = Check.with("v4:1-1;");
        for (int hour : Check.outside(0, 99_999)) {
            Check.range("never(" + hour + ", 0)", () -> x.never(hour, 0));
            Check.range("never(" + hour + ", -1)", () -> x.never(hour, -1));
            Check.range("without rules", () -> new CrewRules().never(hour, 0));
        }
        Check.due("never(99999, 0)", x.never(99_999, 0), 4);
    }

    private static void fromZeroOnRising() {
        Check.sentence("Promise 15", "The i-th kind (from 0 on, rising)");
        CrewRules x = Check.with("v9:1-1;v8:0-0;v5:1-1;v1:1-1;v3:0-0,1a;");
        int[] due = {1, 3, 5, 9};
        for (int i = 0; i < due.length; i++) {
            Check.due("never(0, " + i + ")", x.never(0, i), due[i]);
        }
        CrewRules all = Check.with("v9:1-1;v8:1-1;v7:1-1;v6:1-1;v5:1-1;v4:1-1;v3:1-1;v2:1-1;v1:1-1;");
        for (int i = 0; i < 9; i++) {
            Check.due("of all nine, never(0, " + i + ")", all.never(0, i), i + 1);
        }
    }

    private static void zeroWhenThereAreNotSoMany() {
        Check.sentence("Promise 15", "0 when there are not so many");
        CrewRules x = Check.with("v9:1-1;v1:1-1;v2:0-0;");
        Check.due("the last", x.never(0, 1), 9);
        for (int i : new int[] {2, 3, 9, 10, Integer.MAX_VALUE}) {
            Check.due("never(0, " + i + ")", x.never(0, i), 0);
        }
        Check.due("without rules", new CrewRules().never(0, 0), 0);
        CrewRules all = Check.with("v9:1-1;v8:1-1;v7:1-1;v6:1-1;v5:1-1;v4:1-1;v3:1-1;v2:1-1;v1:1-1;");
        Check.due("a tenth", all.never(0, 9), 0);
    }

    private static void kindsWithARuleOnly() {
        Check.sentence("Promise 15", "with a rule that could not be met");
        CrewRules x = Check.with("v2:1-1;");
        Check.due("kind 2 alone", x.never(0, 0), 2);
        Check.due("no other", x.never(0, 1), 0);
        Check.right(x, "v3:1-1;", 1);
        Check.due("kind 3 alone", x.never(0, 0), 3);
        Check.due("no other", x.never(0, 1), 0);
        Check.right(x, "v3:0-0~24^1;", 1);
        Check.due("a rest and a longest duty do not matter", x.never(0, 0), 0);
    }

    private static void moreAtLeastThanHaveSomeSkill() {
        Check.sentence("Promise 15", "more at least than there are persons with some skill");
        CrewRules x = Check.with("v1:9-9;v2:0-9;");
        for (int p = 0; p < 9; p++) {
            Check.due(p + " of 9", x.never(0, 0), 1);
            Check.due("nobody is enough for 0", x.never(0, 1), 0);
            // Several skills of one person do not make several persons.
            x.skill(41 + p, p, 1);
            x.skill(41 + p, 9, 1);
        }
        Check.due("9 of 9", x.never(0, 0), 0);
        x.skill(0, 5, 1);
        Check.due("10 of 9", x.never(0, 0), 0);
    }

    private static void skillsThatHaveEnded() {
        Check.sentence("Promise 15", "some skill that has not ended");
        CrewRules x = Check.with("v1:1-1;");
        x.skill(0, 0, 10);
        Check.due("before its end", x.never(9, 0), 0);
        Check.due("at its end", x.never(10, 0), 1);
        x.skill(0, 9, 11);
        Check.due("another one goes on", x.never(10, 0), 0);
        Check.due("both have ended", x.never(11, 0), 1);
        x.skill(0, 9, 99_999);
        Check.due("the last hours", x.never(99_998, 0), 0);
        Check.due("the last hours", x.never(99_999, 0), 1);
    }

    private static void byAllPersonsTogether() {
        Check.sentence("Promise 15", "by all persons together");
        CrewRules x = Check.with("v1:3-3,3a;");
        x.skill(0, 0, 1);
        x.skill(25, 0, 1);
        Check.due("two", x.never(0, 0), 1);
        x.skill(49, 0, 1);
        Check.due("three in no crew", x.never(0, 0), 0);
        x.join(0, 0);
        x.join(1, 0);
        x.join(2, 49);
        Check.due("in crews, in two crews", x.never(0, 0), 0);
        x.join(3, 30);
        x.join(3, 31);
        Check.due("another question between", x.counts(3), 2);
        Check.due("all persons again", x.never(0, 0), 0);
    }

    private static void needsOfMoreThanHaveIt() {
        Check.sentence("Promise 15", "or a need of more than have it");
        CrewRules x = Check.with("v1:0-0,0a,0a,0a,0a,0a,2a;v2:0-0,0a;v3:0-0,9b;");
        x.skill(0, 0, 5);
        Check.due("1 of 2", x.never(0, 0), 1);
        x.skill(49, 0, 6);
        Check.due("2 of 2", x.never(4, 0), 3);
        Check.due("one has ended", x.never(5, 0), 1);
        Check.due("0 of 0", x.never(6, 2), 0);
        for (int p = 10; p < 18; p++) {
            x.skill(p, 1, 5);
        }
        Check.due("8 of 9", x.never(0, 0), 3);
        x.skill(18, 1, 5);
        Check.due("9 of 9", x.never(0, 0), 0);
    }

    private static void needsWithARank() {
        Check.sentence("Promise 15", "(with a rank;");
        CrewRules x = Check.with("v1:0-0,1a>9;v2:0-0,1a>5;v3:0-0,1a>0;");
        x.skill(7, 0, 1);
        int[] ranks = {0, 4, 5, 8, 9};
        int[] first = {1, 1, 1, 1, 0};
        int[] second = {2, 2, 0, 0, 0};
        for (int i = 0; i < ranks.length; i++) {
            x.person(7, ranks[i], 0);
            Check.due("rank " + ranks[i], x.never(0, 0), first[i]);
            Check.due("rank " + ranks[i], x.never(0, 1), second[i]);
        }
        x.person(7, 0, 0);
        x.person(8, 9, 0);
        x.skill(8, 1, 1);
        Check.due("the rank of one without the skill", x.never(0, 0), 1);
    }

    private static void substitutesCount() {
        Check.sentence("Promise 15", "substitutes count");
        CrewRules x = Check.with("v1:0-0,1a>3;sa=b[22-2];sb=c[0-23];");
        x.person(0, 3, 0);
        x.skill(0, 1, 99);
        int[] hours = {0, 2, 3, 21, 22, 26, 27};
        int[] due = {0, 0, 1, 1, 0, 0, 1};
        for (int i = 0; i < hours.length; i++) {
            Check.due("at " + hours[i], x.never(hours[i], 0), due[i]);
        }
        x.person(0, 2, 0);
        Check.due("with too low a rank", x.never(0, 0), 1);
        x.person(0, 3, 0);
        x.skill(0, 1, 0);
        x.skill(0, 2, 99);
        Check.due("they do not chain", x.never(0, 0), 1);
    }

    private static void learnersDoNot() {
        Check.sentence("Promise 15", "learners do not)");
        CrewRules x = Check.with("v1:0-0,1a;v2:1-1;");
        x.skill(0, 0, 1);
        int[] due = {0, 1, 0, 1};
        for (int m = 0; m <= 3; m++) {
            x.person(0, 9, m);
            Check.due("marks " + m, x.never(0, 0), due[m]);
        }
        // Said of needs: a learner is a person with some skill.
        Check.due("a learner for the least", x.never(0, 1), 0);
        x.person(1, 9, 2);
        Check.due("a mentor does not help", x.never(0, 0), 1);
    }

    private static void exactNeedsAreMetByFewer() {
        Check.sentence("Promise 15", "a need of more than have it");
        CrewRules x = Check.with("v1:0-0,=1a;v2:0-0,=0a;");
        Check.due("none of just 1", x.never(0, 0), 1);
        Check.due("none of just 0", x.never(0, 1), 0);
        x.skill(0, 0, 1);
        Check.due("1 of just 1", x.never(0, 0), 0);
        x.skill(1, 0, 1);
        Check.due("2 of just 1, and of just 0", x.never(0, 0), 0);
    }

    private static void partsOfARule() {
        Check.sentence("Promise 16", "Of a kind's rule 0 the least, 1 the greatest, 2 the rest (-1), 3 the longest duty (-1), 4 how many needs.");
        CrewRules x = Check.with("v1:0-9~24^48,=9a>9;v9:9-9~0^1,0a,0b,0c,0d,0e,0f;v5:1-2~3^4;");
        int[][] due = {{1, 0, 9, 24, 48, 1}, {9, 9, 9, 0, 1, 6}, {5, 1, 2, 3, 4, 0}};
        for (int[] row : due) {
            for (int what = 0; what <= 4; what++) {
                Check.due("rule(" + row[0] + ", " + what + ")", x.rule(row[0], what), row[what + 1]);
            }
        }
    }

    private static void partsThatAreNotTold() {
        Check.sentence("Promise 16", "2 the rest (-1), 3 the longest duty (-1)");
        CrewRules x = Check.with("v1:0-0;v2:0-0~0;v3:0-0^1;");
        int[][] due = {{-1, -1}, {0, -1}, {-1, 1}};
        for (int kind = 1; kind <= 3; kind++) {
            Check.due("the rest of kind " + kind, x.rule(kind, 2), due[kind - 1][0]);
            Check.due("the longest duty of kind " + kind, x.rule(kind, 3), due[kind - 1][1]);
            Check.due("the needs of kind " + kind, x.rule(kind, 4), 0);
        }
    }

    private static void noSuchKind() {
        Check.sentence("Promise 16", "Unknown: no such kind");
        CrewRules x = Check.with("v1:0-0;v9:0-0;");
        for (int kind : Check.outside(1, 9)) {
            Check.unknown("rule(" + kind + ", 0)", () -> x.rule(kind, 0));
            Check.unknown("rule(" + kind + ", 5)", () -> x.rule(kind, 5));
        }
        Check.due("rule(1, 0)", x.rule(1, 0), 0);
        Check.due("rule(9, 0)", x.rule(9, 0), 0);
    }

    private static void noRuleOfTheKind() {
        Check.sentence("Promise 16", "it has no rule");
        CrewRules x = Check.with("v1:0-0;v9:0-0;");
        for (int kind = 2; kind <= 8; kind++) {
            int k = kind;
            Check.unknown("rule(" + k + ", 0)", () -> x.rule(k, 0));
        }
        Check.right(x, "v2:0-0;", 1);
        Check.unknown("a rule that was", () -> x.rule(1, 0));
        Check.wrongAt(x, "v3:0-0;x", 7);
        Check.unknown("a rule of a wrong text", () -> x.rule(3, 0));
    }

    private static void noSuchPart() {
        Check.sentence("Promise 16", "or no such what");
        CrewRules x = Check.with("v1:0-0,0a;");
        for (int what : Check.outside(0, 4)) {
            Check.unknown("rule(1, " + what + ")", () -> x.rule(1, what));
            Check.unknown("rule(2, " + what + ")", () -> x.rule(2, what));
        }
        Check.due("rule(1, 0)", x.rule(1, 0), 0);
        Check.due("rule(1, 4)", x.rule(1, 4), 1);
    }
}
