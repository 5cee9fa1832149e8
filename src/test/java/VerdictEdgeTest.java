/** The boundary cases of promises 11 and 13 (verdict, having), of hours and of substitutes, a method for each sentence. */
public final class VerdictEdgeTest {
    private static final String VERDICT = "Terms, the verdict (promise 11)";
    private static final String SUBSTITUTE = "Terms, substitutes (promises 11, 13)";

    public static void main(String[] args) {
        crewsOfVerdict();
        hoursOfVerdict();
        verdictRefusesUnknownBeforeRange();
        noRule();
        personsInAnotherCrew();
        fewerThanTheLeast();
        moreThanTheGreatest();
        restedLessThanTold();
        restsWithBothHoursTold();
        restsOfThoseWhoCount();
        onDutyLongerThanTold();
        noDutyThatBegan();
        dutiesOfThoseWhoCount();
        restsAndDutiesNotTold();
        needsByTheirNumbers();
        needsOfSoMany();
        needsAtTheHour();
        needsWithRank();
        needsWithSubstitutes();
        exactNeeds();
        exactNeedsOfNone();
        learnersForNeeds();
        allIsWell();
        theFirstOfTheVerdicts();
        hoursOfTheDay();
        fromTheFirstUpToTheLast();
        throughMidnight();
        substitutesDoNotChain();
        substitutesGoOneWay();
        crewsAndSkillsOfHaving();
        hoursAndRanksOfHaving();
        havingRefusesUnknownBeforeRange();
        havingOfThoseWhoCount();
        havingAtTheHour();
        havingWithRank();
        havingOfNoLearners();
        Check.end();
    }

    /** Crew 0 of the text's kind 1, with persons 0 .. size - 1. */
    private static CrewRules withCrew(String text, int size) {
        CrewRules x = Check.with(text);
        for (int p = 0; p < size; p++) {
            x.join(0, p);
        }
        return x;
    }

    private static void crewsOfVerdict() {
        Check.sentence("Promise 11", "Unknown: no such crew");
        CrewRules x = Check.with("v1:1-1;");
        x.join(0, 0);
        x.join(19, 49);
        for (int crew : Check.outside(0, 19)) {
            Check.unknown("verdict(" + crew + ", 0)", () -> x.verdict(crew, 0));
        }
        Check.due("verdict(0, 0)", x.verdict(0, 0), 0);
        Check.due("verdict(19, 0)", x.verdict(19, 0), 0);
    }

    private static void hoursOfVerdict() {
        Check.sentence("Promise 11", "range: the hour");
        CrewRules x = Check.with("v1:0-0;");
        for (int hour : Check.outside(0, 99_999)) {
            Check.range("verdict(0, " + hour + ")", () -> x.verdict(0, hour));
            Check.range("verdict(0, " + hour + ") without a rule", () -> new CrewRules().verdict(0, hour));
        }
        Check.due("verdict(0, 0)", x.verdict(0, 0), 0);
        Check.due("verdict(0, 99999)", x.verdict(0, 99_999), 0);
    }

    private static void verdictRefusesUnknownBeforeRange() {
        Check.sentence("Terms, promise 11", "Refusals, in this order");
        CrewRules x = Check.with("v1:0-0;");
        for (int crew : Check.outside(0, 19)) {
            Check.unknown("verdict(" + crew + ", -1)", () -> x.verdict(crew, -1));
            Check.unknown("verdict(" + crew + ", 100000)", () -> x.verdict(crew, 100_000));
        }
    }

    private static void noRule() {
        Check.sentence(VERDICT, "1 there is no rule for its kind");
        CrewRules x = Check.with("v2:0-9;v8:0-9;");
        int[] due = {1, 0, 1, 1, 1, 1, 1, 0, 1};
        for (int kind = 1; kind <= 9; kind++) {
            x.kind(0, kind);
            Check.due("kind " + kind, x.verdict(0, 0), due[kind - 1]);
        }
        Check.right(x, "v9:0-9;", 1);
        Check.due("a rule now", x.verdict(0, 0), 0);
        Check.right(x, "", 0);
        Check.due("none again", x.verdict(0, 0), 1);
    }

    private static void personsInAnotherCrew() {
        Check.sentence(VERDICT, "2 a person of it is in another crew, too");
        CrewRules x = withCrew("v1:0-9;", 3);
        Check.due("in one crew", x.verdict(0, 0), 0);
        x.join(19, 2);
        Check.due("the last one in two", x.verdict(0, 0), 2);
        Check.due("the other crew", x.verdict(19, 0), 2);
        Check.due("a crew without that person", x.verdict(1, 0), 0);
        x.leave(0, 2);
        Check.due("in one again", x.verdict(0, 0), 0);
        Check.due("in one again", x.verdict(19, 0), 0);
        x.person(0, 0, 1);
        x.join(5, 0);
        Check.due("a learner without a mentor in two", x.verdict(0, 0), 2);
        x.kind(5, 9);
        Check.due("whatever the other crew's kind is", x.verdict(0, 0), 2);
    }

    private static void fewerThanTheLeast() {
        Check.sentence(VERDICT, "3 fewer count than the least");
        CrewRules x = withCrew("v1:9-9;v2:0-9;", 8);
        Check.due("8 for 9", x.verdict(0, 0), 3);
        x.join(0, 49);
        Check.due("9 for 9", x.verdict(0, 0), 0);
        x.person(49, 0, 1);
        Check.due("9 with a learner who does not count", x.verdict(0, 0), 3);
        x.person(0, 0, 2);
        Check.due("9 with a learner who counts", x.verdict(0, 0), 0);
        x.kind(1, 2);
        Check.due("0 for 0", x.verdict(1, 0), 0);
        Check.due("0 for 9", x.verdict(2, 0), 3);
    }

    private static void moreThanTheGreatest() {
        Check.sentence(VERDICT, "4 more than the greatest");
        CrewRules x = withCrew("v1:0-9;v2:0-0;", 9);
        Check.due("9 for 9", x.verdict(0, 0), 0);
        x.join(0, 9);
        Check.due("10 for 9", x.verdict(0, 0), 4);
        x.join(0, 10);
        x.join(0, 11);
        Check.due("12 for 9", x.verdict(0, 0), 4);
        x.person(9, 0, 1);
        x.person(10, 0, 1);
        x.person(11, 0, 1);
        Check.due("12 with three learners who do not count", x.verdict(0, 0), 0);
        x.kind(1, 2);
        x.join(1, 30);
        Check.due("1 for 0", x.verdict(1, 0), 4);
    }

    private static void restedLessThanTold() {
        Check.sentence(VERDICT, "5 a person who counts has rested less than told (the duty's begin less the end before");
        CrewRules x = withCrew("v1:0-9~24;v2:0-9~0;v3:0-9~1;", 3);
        x.duty(2, 100, 76);
        Check.due("24 of 24", x.verdict(0, 100), 0);
        x.duty(2, 100, 77);
        Check.due("23 of 24", x.verdict(0, 100), 5);
        Check.due("whatever the hour", x.verdict(0, 0), 5);
        Check.due("whatever the hour", x.verdict(0, 99_999), 5);
        x.duty(2, 100, 100);
        x.kind(0, 2);
        Check.due("0 of 0", x.verdict(0, 100), 0);
        x.kind(0, 3);
        Check.due("0 of 1", x.verdict(0, 100), 5);
        x.duty(2, 100, 99);
        Check.due("1 of 1", x.verdict(0, 100), 0);
        x.duty(0, 99_999, 0);
        Check.due("the longest rest", x.verdict(0, 99_999), 0);
    }

    private static void restsWithBothHoursTold() {
        Check.sentence(VERDICT, "both told");
        CrewRules x = withCrew("v1:0-9~24;", 1);
        Check.due("neither", x.verdict(0, 5), 0);
        x.duty(0, 5, -1);
        Check.due("the begin alone", x.verdict(0, 5), 0);
        x.duty(0, 0, -1);
        Check.due("the begin alone, hour 0", x.verdict(0, 5), 0);
        x.duty(0, -1, 5);
        Check.due("the end alone", x.verdict(0, 5), 0);
        x.duty(0, -1, 0);
        Check.due("the end alone, hour 0", x.verdict(0, 5), 0);
        x.duty(0, 5, 0);
        Check.due("both, the end at hour 0", x.verdict(0, 5), 5);
        x.duty(0, 0, 0);
        Check.due("both at hour 0", x.verdict(0, 5), 5);
    }

    private static void restsOfThoseWhoCount() {
        Check.sentence(VERDICT, "5 a person who counts");
        CrewRules x = withCrew("v1:0-9~24;", 2);
        x.duty(1, 5, 5);
        Check.due("who counts", x.verdict(0, 5), 5);
        x.person(1, 0, 1);
        Check.due("a learner who does not count", x.verdict(0, 5), 0);
        x.person(0, 0, 2);
        Check.due("a learner who counts", x.verdict(0, 5), 5);
        x.leave(0, 1);
        Check.due("who has left", x.verdict(0, 5), 0);
    }

    private static void onDutyLongerThanTold() {
        Check.sentence(VERDICT, "6 a person who counts is on duty longer than told (the hour less the duty's begin; told, and not after the hour)");
        CrewRules x = withCrew("v1:0-9^1;v2:0-9^48;", 2);
        x.duty(0, 100, -1);
        x.duty(1, 100, -1);
        Check.due("0 of 1", x.verdict(0, 100), 0);
        Check.due("1 of 1", x.verdict(0, 101), 0);
        Check.due("2 of 1", x.verdict(0, 102), 6);
        x.kind(0, 2);
        Check.due("48 of 48", x.verdict(0, 148), 0);
        Check.due("49 of 48", x.verdict(0, 149), 6);
        x.duty(0, 149, -1);
        Check.due("one alone is on duty longer", x.verdict(0, 149), 6);
        x.duty(1, 149, -1);
        Check.due("none is", x.verdict(0, 149), 0);
        x.duty(0, 0, -1);
        Check.due("from hour 0 on", x.verdict(0, 99_999), 6);
    }

    private static void noDutyThatBegan() {
        Check.sentence(VERDICT, "or has no duty that began");
        CrewRules x = withCrew("v1:0-9^48;", 2);
        x.duty(0, 10, -1);
        Check.due("one without a duty", x.verdict(0, 10), 6);
        x.duty(1, 11, -1);
        Check.due("it begins an hour later", x.verdict(0, 10), 6);
        Check.due("it begins now", x.verdict(0, 11), 0);
        x.duty(1, -1, 10);
        Check.due("the end before alone", x.verdict(0, 11), 6);
        x.duty(1, 0, -1);
        x.duty(0, 0, -1);
        Check.due("hour 0 is a begin", x.verdict(0, 0), 0);
    }

    private static void dutiesOfThoseWhoCount() {
        Check.sentence(VERDICT, "6 a person who counts");
        CrewRules x = withCrew("v1:0-9^48;", 0);
        Check.due("an empty crew", x.verdict(0, 5), 0);
        x.join(0, 1);
        x.person(1, 0, 1);
        Check.due("a learner who does not count", x.verdict(0, 5), 0);
        x.person(2, 0, 2);
        x.duty(2, 5, -1);
        x.join(0, 2);
        Check.due("a learner who counts", x.verdict(0, 5), 6);
    }

    private static void restsAndDutiesNotTold() {
        Check.sentence(VERDICT, "5 and 6 are looked at only when the rule tells a rest, a longest duty.");
        CrewRules x = withCrew("v1:0-9;v2:0-9~0;v3:0-9^48;v4:0-9~1;", 2);
        x.duty(0, 50, 50);
        int[] due = {0, 0, 6, 5};
        for (int kind = 1; kind <= 4; kind++) {
            x.kind(0, kind);
            Check.due("kind " + kind, x.verdict(0, 50), due[kind - 1]);
        }
        x.duty(1, 50, 50);
        x.kind(0, 3);
        Check.due("no rest told", x.verdict(0, 50), 0);
        x.kind(0, 2);
        Check.due("no longest duty told", x.verdict(0, 99_999), 0);
    }

    private static void needsByTheirNumbers() {
        Check.sentence(VERDICT, "10 + i: need i is not met");
        CrewRules x = withCrew("v1:0-9,1a,1b,1c,1h,1i,1j;", 1);
        int[] skills = {0, 1, 2, 7, 8, 9};
        for (int i = 0; i < 6; i++) {
            Check.due("need " + i, x.verdict(0, 0), 10 + i);
            x.skill(0, skills[i], 1);
        }
        Check.due("all needs", x.verdict(0, 0), 0);
        x.skill(0, 1, 0);
        x.skill(0, 8, 0);
        Check.due("the first of two", x.verdict(0, 0), 11);
    }

    private static void needsOfSoMany() {
        Check.sentence(VERDICT, "fewer of those who count have the skill");
        CrewRules x = withCrew("v1:0-9,9a;v2:0-9,0a;", 9);
        for (int p = 0; p < 9; p++) {
            Check.due(p + " of 9", x.verdict(0, 0), 10);
            x.skill(p, 0, 1);
        }
        Check.due("9 of 9", x.verdict(0, 0), 0);
        x.kind(0, 2);
        Check.due("9 of 0", x.verdict(0, 0), 0);
        Check.due("an empty crew", x.verdict(1, 0), 10);
        x.kind(1, 2);
        Check.due("0 of 0", x.verdict(1, 0), 0);
        // One person may meet several needs.
        CrewRules y = withCrew("v1:0-9,1a,1a,1a,1b;", 1);
        y.skill(0, 0, 1);
        y.skill(0, 1, 1);
        Check.due("one for all", y.verdict(0, 0), 0);
    }

    private static void needsAtTheHour() {
        Check.sentence(VERDICT, "have the skill (or a substitute at that hour) at that hour");
        CrewRules x = withCrew("v1:0-9,1a;", 1);
        x.skill(0, 0, 10);
        Check.due("the last hour", x.verdict(0, 9), 0);
        Check.due("its end", x.verdict(0, 10), 10);
        x.skill(0, 0, 99_999);
        Check.due("the last hour", x.verdict(0, 99_998), 0);
        Check.due("its end", x.verdict(0, 99_999), 10);
    }

    private static void needsWithRank() {
        Check.sentence(VERDICT, "with that rank or a higher one");
        CrewRules x = withCrew("v1:0-9,1a>5;v2:0-9,1a>9;v3:0-9,1a>0;", 1);
        x.skill(0, 0, 1);
        int[] ranks = {0, 4, 5, 6, 9};
        int[][] due = {{10, 10, 0, 0, 0}, {10, 10, 10, 10, 0}, {0, 0, 0, 0, 0}};
        for (int kind = 1; kind <= 3; kind++) {
            x.kind(0, kind);
            for (int i = 0; i < ranks.length; i++) {
                x.person(0, ranks[i], 0);
                Check.due("rank " + ranks[i] + " for kind " + kind, x.verdict(0, 0), due[kind - 1][i]);
            }
        }
    }

    private static void needsWithSubstitutes() {
        Check.sentence(VERDICT, "(or a substitute at that hour)");
        CrewRules x = withCrew("v1:0-9,2a>3;sa=b[8-10];sa=c[10-12];", 2);
        x.person(0, 3, 0);
        x.person(1, 3, 0);
        x.skill(0, 1, 100);
        x.skill(1, 2, 100);
        int[] hours = {9, 10, 11, 34};
        int[] due = {10, 0, 10, 0};
        for (int i = 0; i < hours.length; i++) {
            Check.due("at " + hours[i], x.verdict(0, hours[i]), due[i]);
        }
        x.skill(0, 2, 100);
        Check.due("one with two substitutes counts once", x.having(0, 0, 0, 10), 2);
        x.person(1, 2, 0);
        Check.due("a substitute with too low a rank", x.verdict(0, 10), 10);
        x.person(1, 9, 0);
        x.skill(1, 2, 10);
        Check.due("a substitute's skill has ended", x.verdict(0, 10), 10);
    }

    private static void exactNeeds() {
        Check.sentence(VERDICT, "(with EXACTLY: not just so many)");
        CrewRules x = withCrew("v1:0-9,=2a;v2:0-9,2a;v3:0-9,=2a>5;", 4);
        int[] due = {10, 10, 0, 10, 10};
        for (int n = 0; n <= 4; n++) {
            Check.due(n + " for just 2", x.verdict(0, 0), due[n]);
            x.kind(0, 2);
            Check.due(n + " for 2", x.verdict(0, 0), n < 2 ? 10 : 0);
            x.kind(0, 1);
            if (n < 4) {
                x.skill(n, 0, 1);
            }
        }
        x.kind(0, 3);
        Check.due("none with the rank", x.verdict(0, 0), 10);
        x.person(0, 5, 0);
        x.person(3, 9, 0);
        Check.due("just two with the rank", x.verdict(0, 0), 0);
        x.person(2, 5, 0);
        Check.due("three with the rank", x.verdict(0, 0), 10);
    }

    private static void exactNeedsOfNone() {
        Check.sentence(VERDICT, "(with EXACTLY: not just so many)");
        CrewRules x = withCrew("v1:0-9,0b,=0a;sa=b[5-5];", 1);
        Check.due("none", x.verdict(0, 5), 0);
        x.skill(0, 0, 7);
        Check.due("one", x.verdict(0, 6), 11);
        Check.due("none any more", x.verdict(0, 7), 0);
        x.skill(0, 1, 50);
        Check.due("one by a substitute", x.verdict(0, 29), 11);
        Check.due("none by a substitute at another hour", x.verdict(0, 30), 0);
    }

    private static void learnersForNeeds() {
        Check.sentence("Terms, promise 11", "A learner counts for no need");
        CrewRules x = withCrew("v1:2-2,1a;v2:2-2,=0a;v3:2-2,=1a;", 2);
        x.person(0, 9, 1);
        x.person(1, 0, 2);
        x.skill(0, 0, 1);
        int[] due = {10, 0, 10};
        for (int kind = 1; kind <= 3; kind++) {
            x.kind(0, kind);
            Check.due("kind " + kind, x.verdict(0, 0), due[kind - 1]);
        }
        x.person(0, 9, 3);
        x.kind(0, 1);
        Check.due("a learner who is a mentor", x.verdict(0, 0), 10);
        x.person(0, 9, 0);
        Check.due("a learner no more", x.verdict(0, 0), 0);
    }

    private static void allIsWell() {
        Check.sentence(VERDICT, "otherwise 0");
        CrewRules x = withCrew("v1:1-1~24^48,=1a>9,1b>0;sb=a[0-23];v2:0-0~24^48;", 1);
        x.person(0, 9, 2);
        x.skill(0, 0, 73);
        x.duty(0, 24, 0);
        Check.due("all at its edge", x.verdict(0, 72), 0);
        x.kind(1, 2);
        Check.due("an empty crew", x.verdict(1, 0), 0);
    }

    private static void theFirstOfTheVerdicts() {
        Check.sentence(VERDICT, "THE VERDICT on a crew at an hour is the first of");
        CrewRules x = withCrew("v1:3-3~5^5,1a;v2:0-1~5^5,1a;v3:0-9~5^5,1a,1b;v4:0-9^5,1a;", 2);
        x.join(1, 0);
        x.duty(0, 10, 8);
        x.kind(0, 9);
        Check.due("1 before 2", x.verdict(0, 50), 1);
        x.kind(0, 1);
        Check.due("2 before 3", x.verdict(0, 50), 2);
        x.leave(1, 0);
        Check.due("3 before 5", x.verdict(0, 50), 3);
        x.join(1, 1);
        x.kind(0, 2);
        Check.due("2 before 5", x.verdict(0, 50), 2);
        x.leave(1, 1);
        Check.due("4 before 5", x.verdict(0, 50), 4);
        x.kind(0, 3);
        Check.due("5 of the first before 6", x.verdict(0, 50), 5);
        x.duty(0, -1, -1);
        x.duty(1, 50, 49);
        Check.due("5 of the last before 6 of the first", x.verdict(0, 50), 5);
        x.duty(1, 50, 45);
        Check.due("6 before 10", x.verdict(0, 50), 6);
        x.duty(0, 45, 40);
        Check.due("10 before 11", x.verdict(0, 50), 10);
        x.kind(0, 4);
        Check.due("6 before 10 without a rest", x.verdict(0, 51), 6);
    }

    private static CrewRules withSubstitute(String hours) {
        CrewRules x = withCrew("sa=b[" + hours + "];", 1);
        x.skill(0, 1, 99_999);
        return x;
    }

    private static void hoursOfTheDay() {
        Check.sentence(SUBSTITUTE, "the hour of the day is what is left of one by 24");
        CrewRules x = withSubstitute("23-23");
        CrewRules y = withSubstitute("0-0");
        int[] hours = {0, 22, 23, 24, 25, 47, 48, 99_983, 99_984};
        for (int hour : hours) {
            Check.due("23 at " + hour, x.having(0, 0, 0, hour), hour % 24 == 23 ? 1 : 0);
            Check.due("0 at " + hour, y.having(0, 0, 0, hour), hour % 24 == 0 ? 1 : 0);
        }
        CrewRules z = withSubstitute("14-14");
        Check.due("14 at 99998", z.having(0, 0, 0, 99_998), 1);
        Check.due("14 at 99997", z.having(0, 0, 0, 99_997), 0);
    }

    private static void fromTheFirstUpToTheLast() {
        Check.sentence(SUBSTITUTE, "in the hours of the day from the first one up to the last one");
        int[][] spans = {{0, 23}, {0, 0}, {23, 23}, {6, 6}, {6, 7}, {8, 16}, {0, 1}, {22, 23}};
        for (int[] span : spans) {
            CrewRules x = withSubstitute(span[0] + "-" + span[1]);
            for (int hour = 0; hour < 24; hour++) {
                boolean within = hour >= span[0] && hour <= span[1];
                Check.due(span[0] + "-" + span[1] + " at " + hour, x.having(0, 0, 0, 240 + hour), within ? 1 : 0);
            }
        }
    }

    private static void throughMidnight() {
        Check.sentence(SUBSTITUTE, "(through midnight when that is less)");
        int[][] spans = {{23, 0}, {22, 5}, {1, 0}, {23, 22}, {12, 11}, {20, 1}};
        for (int[] span : spans) {
            CrewRules x = withSubstitute(span[0] + "-" + span[1]);
            for (int hour = 0; hour < 24; hour++) {
                boolean within = hour >= span[0] || hour <= span[1];
                Check.due(span[0] + "-" + span[1] + " at " + hour, x.having(0, 0, 0, 240 + hour), within ? 1 : 0);
            }
        }
    }

    private static void substitutesDoNotChain() {
        Check.sentence(SUBSTITUTE, "Substitutes do not chain");
        for (String text : new String[] {"sa=b[0-23];sb=c[0-23];", "sb=c[0-23];sa=b[0-23];"}) {
            CrewRules x = withCrew(text + "v1:0-9,1a;", 1);
            x.skill(0, 2, 1);
            Check.due("c for b", x.having(0, 1, 0, 0), 1);
            Check.due("c for a", x.having(0, 0, 0, 0), 0);
            Check.due("c for a in a need", x.verdict(0, 0), 10);
        }
        CrewRules y = withCrew("sa=b[0-23];sb=c[0-23];sa=c[0-23];", 1);
        y.skill(0, 2, 1);
        Check.due("c for a when it is told", y.having(0, 0, 0, 0), 1);
    }

    private static void substitutesGoOneWay() {
        Check.sentence(SUBSTITUTE, "who has the other skill counts as one with the skill");
        CrewRules x = withCrew("sa=b[0-23];", 2);
        x.skill(0, 0, 1);
        Check.due("a for b", x.having(0, 1, 0, 0), 0);
        x.skill(0, 1, 1);
        Check.due("who has both counts once", x.having(0, 0, 0, 0), 1);
        x.skill(1, 1, 1);
        Check.due("a and b", x.having(0, 0, 0, 0), 2);
    }

    private static void crewsAndSkillsOfHaving() {
        Check.sentence("Promise 13", "Unknown: no such crew or skill");
        CrewRules x = new CrewRules();
        for (int crew : Check.outside(0, 19)) {
            Check.unknown("having(" + crew + ", 0, 0, 0)", () -> x.having(crew, 0, 0, 0));
        }
        for (int skill : Check.outside(0, 9)) {
            Check.unknown("having(0, " + skill + ", 0, 0)", () -> x.having(0, skill, 0, 0));
        }
        x.join(0, 1);
        x.join(19, 2);
        x.skill(1, 0, 1);
        x.skill(2, 9, 1);
        Check.due("crew 0, skill 0", x.having(0, 0, 0, 0), 1);
        Check.due("crew 19, skill 9", x.having(19, 9, 0, 0), 1);
    }

    private static void hoursAndRanksOfHaving() {
        Check.sentence("Promise 13", "range: the hour, the rank");
        CrewRules x = new CrewRules();
        for (int hour : Check.outside(0, 99_999)) {
            Check.range("having(0, 0, 0, " + hour + ")", () -> x.having(0, 0, 0, hour));
        }
        for (int rank : Check.outside(0, 9)) {
            Check.range("having(0, 0, " + rank + ", 0)", () -> x.having(0, 0, rank, 0));
        }
        x.join(0, 1);
        x.person(1, 9, 0);
        x.skill(1, 0, 99_999);
        Check.due("the first hour, rank 0", x.having(0, 0, 0, 0), 1);
        Check.due("the last hour with the skill, rank 9", x.having(0, 0, 9, 99_998), 1);
        Check.due("the last hour", x.having(0, 0, 9, 99_999), 0);
    }

    private static void havingRefusesUnknownBeforeRange() {
        Check.sentence("Terms, promise 13", "Refusals, in this order");
        CrewRules x = new CrewRules();
        Check.unknown("having(20, 0, 10, 0)", () -> x.having(20, 0, 10, 0));
        Check.unknown("having(-1, 0, 0, -1)", () -> x.having(-1, 0, 0, -1));
        Check.unknown("having(0, 10, -1, 0)", () -> x.having(0, 10, -1, 0));
        Check.unknown("having(0, -1, 0, 100000)", () -> x.having(0, -1, 0, 100_000));
    }

    private static void havingOfThoseWhoCount() {
        Check.sentence("Promise 13", "How many of those who count have a skill");
        CrewRules x = new CrewRules();
        Check.due("an empty crew", x.having(0, 0, 0, 0), 0);
        for (int p = 38; p < 50; p++) {
            x.join(0, p);
            x.skill(p, 0, 1);
        }
        x.skill(0, 0, 1);
        Check.due("a full crew", x.having(0, 0, 0, 0), 12);
        x.join(1, 49);
        Check.due("one in two crews", x.having(0, 0, 0, 0), 11);
        Check.due("one in two crews", x.having(1, 0, 0, 0), 0);
    }

    private static void havingAtTheHour() {
        Check.sentence("Promise 13", "(or a substitute) at an hour");
        CrewRules x = withCrew("sa=b[3-4];", 2);
        x.skill(0, 0, 4);
        x.skill(1, 1, 28);
        int[] hours = {2, 3, 4, 5, 27, 28};
        int[] due = {1, 2, 1, 0, 1, 0};
        for (int i = 0; i < hours.length; i++) {
            Check.due("at " + hours[i], x.having(0, 0, 0, hours[i]), due[i]);
        }
    }

    private static void havingWithRank() {
        Check.sentence("Promise 13", "with a rank or a higher one");
        CrewRules x = new CrewRules();
        for (int p = 0; p < 10; p++) {
            x.join(0, p);
            x.person(p, p, 0);
            x.skill(p, 0, 1);
        }
        for (int rank = 0; rank <= 9; rank++) {
            Check.due("rank " + rank, x.having(0, 0, rank, 0), 10 - rank);
        }
    }

    private static void havingOfNoLearners() {
        Check.sentence("Promise 13", "and are no learners");
        CrewRules x = new CrewRules();
        for (int p = 0; p < 4; p++) {
            x.join(0, p);
            x.person(p, 0, p);
            x.skill(p, 0, 1);
        }
        Check.due("learners count", x.counts(0), 4);
        Check.due("but are not among those who have it", x.having(0, 0, 0, 0), 2);
    }
}
