/** The boundary cases of promises 8, 9, 10, 12 and 14 (kind, join, leave, counts, leader), a method for each sentence. */
public final class CrewEdgeTest {
    public static void main(String[] args) {
        crewsOfKind();
        kinds();
        kindRefusesUnknownBeforeRange();
        kindRefusedChangesNothing();
        crewsAndPersonsOfJoin();
        joinTellsHowMany();
        joinRefusesWhoIsInIt();
        joinHasRoomForTwelve();
        joinRefusesInOrder();
        joinRefusedChangesNothing();
        crewsAndPersonsOfLeave();
        leaveTellsHowMany();
        leaveRefusesWhoIsNotInIt();
        leaveRefusesUnknownBeforeState();
        leaveRefusedChangesNothing();
        crewsOfCounts();
        emptyAndFullCrewsCount();
        personsInTwoOrMoreCrews();
        learnersWithoutMentor();
        mentorsWhoLearn();
        mentorsWhoDoNotCount();
        crewsOfLeader();
        nobodyCouldLead();
        learnersDoNotLead();
        theHighestRankLeads();
        theLowestNumberLeads();
        Check.end();
    }

    private static void crewsOfKind() {
        Check.sentence("Promise 8", "Unknown: no such crew");
        CrewRules x = Check.with("v1:0-0;");
        for (int crew : Check.outside(0, 19)) {
            Check.unknown("kind(" + crew + ", 1)", () -> x.kind(crew, 1));
        }
        for (int crew : new int[] {0, 19}) {
            x.kind(crew, 2);
            Check.due("crew " + crew, x.verdict(crew, 0), 1);
        }
        Check.due("crew 1", x.verdict(1, 0), 0);
        Check.due("crew 18", x.verdict(18, 0), 0);
    }

    private static void kinds() {
        Check.sentence("Promise 8", "range: the kind");
        CrewRules x = Check.with("v1:0-0;v9:1-1;");
        for (int kind : Check.outside(1, 9)) {
            Check.range("kind(0, " + kind + ")", () -> x.kind(0, kind));
        }
        x.kind(0, 9);
        Check.due("kind 9", x.verdict(0, 0), 3);
        x.kind(0, 1);
        Check.due("kind 1", x.verdict(0, 0), 0);
    }

    private static void kindRefusesUnknownBeforeRange() {
        Check.sentence("Terms, promise 8", "Refusals, in this order");
        CrewRules x = new CrewRules();
        for (int crew : Check.outside(0, 19)) {
            Check.unknown("kind(" + crew + ", 0)", () -> x.kind(crew, 0));
            Check.unknown("kind(" + crew + ", 10)", () -> x.kind(crew, 10));
        }
    }

    private static void kindRefusedChangesNothing() {
        Check.sentence("Terms, promise 8", "What is refused changes nothing");
        CrewRules x = Check.with("v5:0-0;");
        x.kind(0, 5);
        Check.range("kind(0, 10)", () -> x.kind(0, 10));
        Check.range("kind(0, 0)", () -> x.kind(0, 0));
        Check.due("kind 5 still", x.verdict(0, 0), 0);
    }

    private static void crewsAndPersonsOfJoin() {
        Check.sentence("Promise 9", "Unknown: no such crew or person");
        CrewRules x = new CrewRules();
        for (int crew : Check.outside(0, 19)) {
            Check.unknown("join(" + crew + ", 0)", () -> x.join(crew, 0));
        }
        for (int p : Check.outside(0, 49)) {
            Check.unknown("join(0, " + p + ")", () -> x.join(0, p));
        }
        // Numbers that a shift by 64 would take for person 0, 1, 49.
        for (int p : new int[] {63, 64, 65, 113, -64}) {
            Check.unknown("join(0, " + p + ")", () -> x.join(0, p));
        }
        Check.due("join(0, 0)", x.join(0, 0), 1);
        Check.due("join(0, 49)", x.join(0, 49), 2);
        Check.due("join(19, 1)", x.join(19, 1), 1);
    }

    private static void joinTellsHowMany() {
        Check.sentence("Promise 9", "A person comes into a crew: how many it has.");
        CrewRules x = new CrewRules();
        x.person(3, 0, 1);
        Check.due("the first, a learner who does not count", x.join(0, 3), 1);
        x.join(1, 4);
        Check.due("the second, in two crews", x.join(0, 4), 2);
        Check.due("the third", x.join(0, 49), 3);
        Check.due("in another crew", x.join(1, 49), 2);
    }

    private static void joinRefusesWhoIsInIt() {
        Check.sentence("Promise 9", "state: the person is in it");
        CrewRules x = new CrewRules();
        // 32 and 0, 49 and 17 are the same place in a row of 32 bits.
        for (int p : new int[] {0, 31, 32, 49, 17}) {
            Check.due("join(0, " + p + ") answers", Check.thrownBy(() -> x.join(0, p)) == null ? 1 : 0, 1);
            Check.state("join(0, " + p + ")", () -> x.join(0, p));
        }
        Check.due("join(1, 0)", x.join(1, 0), 1);
        x.leave(0, 0);
        Check.due("join(0, 0) after leave(0, 0)", x.join(0, 0), 5);
    }

    private static CrewRules withFullCrew() {
        CrewRules x = new CrewRules();
        for (int p = 10; p < 22; p++) {
            x.join(4, p);
        }
        return x;
    }

    private static void joinHasRoomForTwelve() {
        Check.sentence("Promise 9", "no room: there are 12");
        CrewRules x = new CrewRules();
        for (int i = 1; i <= 12; i++) {
            Check.due("number " + i, x.join(4, 9 + i), i);
        }
        Check.noRoom("number 13", () -> x.join(4, 0));
        Check.noRoom("number 13", () -> x.join(4, 49));
        Check.due("another crew has room", x.join(5, 0), 1);
        Check.due("one leaves", x.leave(4, 15), 11);
        Check.due("number 12", x.join(4, 49), 12);
        Check.noRoom("number 13", () -> x.join(4, 15));
    }

    private static void joinRefusesInOrder() {
        Check.sentence("Terms, promise 9", "Refusals, in this order");
        CrewRules x = withFullCrew();
        Check.state("who is in a full crew", () -> x.join(4, 10));
        Check.state("who is in a full crew", () -> x.join(4, 21));
        for (int p : Check.outside(0, 49)) {
            Check.unknown("join(4, " + p + ") into a full crew", () -> x.join(4, p));
        }
    }

    private static void joinRefusedChangesNothing() {
        Check.sentence("Terms, promise 9", "What is refused changes nothing");
        CrewRules x = withFullCrew();
        Check.state("who is in it", () -> x.join(4, 10));
        Check.noRoom("a thirteenth", () -> x.join(4, 0));
        Check.due("all count", x.counts(4), 12);
        Check.state("who was refused is not in it", () -> x.leave(4, 0));
        x.join(5, 0);
        Check.due("who was refused is in one crew", x.counts(5), 1);
        Check.due("who was refused twice is in it once", x.leave(4, 10), 11);
        Check.state("who was refused twice is in it once", () -> x.leave(4, 10));
    }

    private static void crewsAndPersonsOfLeave() {
        Check.sentence("Promise 10", "Unknown: no such crew or person");
        CrewRules x = new CrewRules();
        x.join(0, 0);
        x.join(0, 49);
        x.join(19, 1);
        for (int crew : Check.outside(0, 19)) {
            Check.unknown("leave(" + crew + ", 0)", () -> x.leave(crew, 0));
        }
        for (int p : Check.outside(0, 49)) {
            Check.unknown("leave(0, " + p + ")", () -> x.leave(0, p));
        }
        for (int p : new int[] {64, 113, -64}) {
            Check.unknown("leave(0, " + p + ")", () -> x.leave(0, p));
        }
        Check.due("leave(0, 49)", x.leave(0, 49), 1);
        Check.due("leave(0, 0)", x.leave(0, 0), 0);
        Check.due("leave(19, 1)", x.leave(19, 1), 0);
    }

    private static void leaveTellsHowMany() {
        Check.sentence("Promise 10", "A person leaves a crew: how many it has then.");
        CrewRules x = withFullCrew();
        x.join(5, 11);
        x.person(12, 0, 1);
        for (int left = 11; left >= 0; left--) {
            Check.due("leave(4, " + (21 - left) + ")", x.leave(4, 21 - left), left);
        }
        Check.due("nobody", x.counts(4), 0);
        Check.due("in the other crew still", x.leave(5, 11), 0);
    }

    private static void leaveRefusesWhoIsNotInIt() {
        Check.sentence("Promise 10", "state: the person is not in it");
        CrewRules x = new CrewRules();
        Check.state("an empty crew", () -> x.leave(0, 0));
        x.join(0, 0);
        x.join(0, 17);
        x.join(1, 5);
        Check.state("leave(0, 32)", () -> x.leave(0, 32));
        Check.state("leave(0, 49)", () -> x.leave(0, 49));
        Check.state("who is in another one", () -> x.leave(0, 5));
        x.leave(0, 0);
        Check.state("who has left", () -> x.leave(0, 0));
    }

    private static void leaveRefusesUnknownBeforeState() {
        Check.sentence("Terms, promise 10", "Refusals, in this order");
        CrewRules x = new CrewRules();
        Check.unknown("leave(20, 0)", () -> x.leave(20, 0));
        Check.unknown("leave(0, 50)", () -> x.leave(0, 50));
        Check.unknown("leave(20, 50)", () -> x.leave(20, 50));
    }

    private static void leaveRefusedChangesNothing() {
        Check.sentence("Terms, promise 10", "What is refused changes nothing");
        CrewRules x = new CrewRules();
        x.join(0, 1);
        x.join(1, 2);
        x.join(2, 2);
        Check.state("who is not in it", () -> x.leave(0, 2));
        Check.due("in two crews still", x.counts(1), 0);
        Check.due("one counts", x.counts(0), 1);
        Check.due("how many it has", x.join(0, 3), 2);
    }

    private static void crewsOfCounts() {
        Check.sentence("Promise 12", "Unknown: no such crew");
        CrewRules x = new CrewRules();
        x.join(0, 1);
        x.join(19, 2);
        for (int crew : Check.outside(0, 19)) {
            Check.unknown("counts(" + crew + ")", () -> x.counts(crew));
        }
        Check.due("counts(0)", x.counts(0), 1);
        Check.due("counts(19)", x.counts(19), 1);
    }

    private static void emptyAndFullCrewsCount() {
        Check.sentence("Promise 12", "How many persons count in a crew.");
        CrewRules x = withFullCrew();
        Check.due("a full crew", x.counts(4), 12);
        Check.due("an empty crew", x.counts(3), 0);
        x.join(3, 0);
        x.join(3, 49);
        Check.due("the first and the last person", x.counts(3), 2);
    }

    private static void personsInTwoOrMoreCrews() {
        Check.sentence("Terms, promise 12", "a person in two or more crews COUNTS in none of them");
        CrewRules x = new CrewRules();
        for (int crew = 0; crew < 20; crew++) {
            x.join(crew, 7);
            Check.due("in " + (crew + 1), x.counts(0), crew == 0 ? 1 : 0);
            Check.due("in " + (crew + 1), x.counts(crew), crew == 0 ? 1 : 0);
        }
        for (int crew = 0; crew < 19; crew++) {
            Check.due("in " + (20 - crew), x.counts(19), 0);
            x.leave(crew, 7);
        }
        Check.due("in one again", x.counts(19), 1);
        Check.due("in a crew left", x.counts(0), 0);
        CrewRules full = withFullCrew();
        for (int p = 10; p < 22; p++) {
            full.join(9, p);
        }
        Check.due("all in two crews", full.counts(4), 0);
        Check.due("all in two crews", full.counts(9), 0);
    }

    private static void learnersWithoutMentor() {
        Check.sentence("Terms, promise 12", "A learner counts for no need, and at all only when a mentor who is no learner counts in the crew.");
        CrewRules x = new CrewRules();
        x.person(1, 9, 1);
        x.person(2, 0, 2);
        x.join(0, 1);
        Check.due("a learner alone", x.counts(0), 0);
        x.join(0, 3);
        Check.due("with one who is no mentor", x.counts(0), 1);
        x.join(0, 2);
        Check.due("with a mentor", x.counts(0), 3);
        x.leave(0, 2);
        Check.due("the mentor has left", x.counts(0), 1);
        x.join(1, 2);
        Check.due("a mentor in another crew", x.counts(0), 1);
        // The mentor may have the highest number, and eleven learners need just one.
        for (int p = 10; p < 21; p++) {
            x.person(p, 0, 1);
            x.join(2, p);
        }
        Check.due("eleven learners", x.counts(2), 0);
        x.person(49, 0, 2);
        x.join(2, 49);
        Check.due("eleven learners and a mentor", x.counts(2), 12);
    }

    private static void mentorsWhoLearn() {
        Check.sentence("Terms, promise 12", "only when a mentor who is no learner");
        CrewRules x = new CrewRules();
        x.person(1, 0, 1);
        x.person(2, 0, 3);
        x.person(3, 0, 3);
        x.join(0, 1);
        x.join(0, 2);
        x.join(0, 3);
        Check.due("mentors who learn are none", x.counts(0), 0);
        x.person(2, 0, 2);
        Check.due("one learns no more", x.counts(0), 3);
    }

    private static void mentorsWhoDoNotCount() {
        Check.sentence("Terms, promise 12", "a mentor who is no learner counts in the crew");
        CrewRules x = new CrewRules();
        x.person(1, 0, 1);
        x.person(2, 0, 2);
        x.join(0, 1);
        x.join(0, 2);
        x.join(1, 2);
        Check.due("the mentor is in two crews", x.counts(0), 0);
        x.person(3, 0, 2);
        x.join(0, 3);
        Check.due("another mentor counts", x.counts(0), 2);
        x.leave(0, 3);
        x.leave(1, 2);
        Check.due("the mentor counts again", x.counts(0), 2);
        x.join(1, 1);
        Check.due("the learner is in two crews", x.counts(0), 1);
    }

    private static void crewsOfLeader() {
        Check.sentence("Promise 14", "Unknown: no such crew");
        CrewRules x = new CrewRules();
        x.join(0, 1);
        x.join(19, 2);
        for (int crew : Check.outside(0, 19)) {
            Check.unknown("leader(" + crew + ")", () -> x.leader(crew));
        }
        Check.due("leader(0)", x.leader(0), 1);
        Check.due("leader(19)", x.leader(19), 2);
    }

    private static void nobodyCouldLead() {
        Check.sentence("Promise 14", "-1 for none");
        CrewRules x = new CrewRules();
        Check.due("an empty crew", x.leader(0), -1);
        x.join(0, 0);
        Check.due("person 0 with rank 0", x.leader(0), 0);
        x.join(1, 0);
        Check.due("in two crews", x.leader(0), -1);
        x.leave(1, 0);
        x.leave(0, 0);
        Check.due("an empty crew again", x.leader(0), -1);
    }

    private static void learnersDoNotLead() {
        Check.sentence("Promise 14", "of those who count and are no learners");
        CrewRules x = new CrewRules();
        x.person(1, 9, 1);
        x.person(2, 9, 3);
        x.join(0, 1);
        x.join(0, 2);
        Check.due("learners alone", x.leader(0), -1);
        x.person(3, 0, 2);
        x.join(0, 3);
        Check.due("learners who count", x.leader(0), 3);
        x.person(1, 9, 0);
        Check.due("a learner no more", x.leader(0), 1);
        x.join(1, 1);
        Check.due("who does not count", x.leader(0), 3);
    }

    private static void theHighestRankLeads() {
        Check.sentence("Promise 14", "the one with the highest rank");
        CrewRules x = new CrewRules();
        for (int p = 0; p < 10; p++) {
            x.person(p, p, 0);
            x.join(0, p);
            Check.due("rising: rank " + p, x.leader(0), p);
        }
        for (int p = 0; p < 9; p++) {
            x.leave(0, 9 - p);
            Check.due("falling: rank " + (8 - p), x.leader(0), 8 - p);
        }
        x.person(48, 9, 0);
        x.person(49, 8, 0);
        x.join(1, 49);
        x.join(1, 48);
        Check.due("ranks 9 and 8", x.leader(1), 48);
    }

    private static void theLowestNumberLeads() {
        Check.sentence("Promise 14", "(the lowest number of these)");
        CrewRules x = new CrewRules();
        x.join(0, 49);
        Check.due("49", x.leader(0), 49);
        x.join(0, 48);
        Check.due("48 and 49", x.leader(0), 48);
        x.join(0, 0);
        Check.due("0, 48 and 49", x.leader(0), 0);
        x.person(48, 9, 0);
        x.person(49, 9, 0);
        Check.due("two of rank 9", x.leader(0), 48);
    }
}
