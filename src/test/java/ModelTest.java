import java.util.ArrayList;
import java.util.List;
import java.util.Random;
import java.util.Set;
import java.util.TreeMap;
import java.util.TreeSet;

/** All promises together: runs of 512 calls with arguments in and out of range, against a slow model written straight from the document. */
public final class ModelTest {
    private static final int REFUSED_UNKNOWN = -101;
    private static final int REFUSED_RANGE = -102;
    private static final int REFUSED_STATE = -103;
    private static final int REFUSED_ROOM = -104;

    private record Need(boolean exact, int number, int skill, int rank) {
    }

    private record Rule(int least, int greatest, int rest, int longest, List<Need> needs) {
    }

    private record Substitute(int skill, int other, int first, int last) {
    }

    private final Random random;
    private final CrewRules x = new CrewRules();
    private TreeMap<Integer, Rule> rules = new TreeMap<>();
    private List<Substitute> substitutes = new ArrayList<>();
    private final int[] rank = new int[50];
    private final int[] marks = new int[50];
    private final int[][] until = new int[50][10];
    private final int[] from = new int[50];
    private final int[] before = new int[50];
    private final int[] kinds = new int[20];
    private final List<Set<Integer>> crews = new ArrayList<>();
    private int place = -1;
    private int calls = 0;
    private final int[] answersSeen;

    private ModelTest(long seed, int[] answersSeen) {
        random = new Random(seed);
        this.answersSeen = answersSeen;
        for (int p = 0; p < 50; p++) {
            from[p] = -1;
            before[p] = -1;
        }
        for (int crew = 0; crew < 20; crew++) {
            kinds[crew] = 1;
            crews.add(new TreeSet<>());
        }
    }

    public static void main(String[] args) {
        int[] answersSeen = new int[16];
        for (int seed = 0; seed < 400; seed++) {
            new ModelTest(seed, answersSeen).run();
        }
        for (int verdict : new int[] {0, 1, 2, 3, 4, 5, 6, 10, 11, 12}) {
            Check.due("verdict " + verdict + " came up", answersSeen[verdict] > 0 ? 1 : 0, 1);
        }
        Check.end();
    }

    private void run() {
        readText();
        while (calls < 512) {
            calls++;
            int what = random.nextInt(40);
            if (what == 0 && calls < 460) {
                readText();
            } else if (what < 20) {
                change(what);
            } else {
                ask(what);
            }
        }
    }

    /** Mostly within 0 .. limit - 1, sometimes just outside of it. */
    private int some(int limit) {
        int r = random.nextInt(60);
        return r == 0 ? -1 : r == 1 ? limit : random.nextInt(limit);
    }

    private int someHour() {
        int r = random.nextInt(60);
        return r == 0 ? -1 : r == 1 ? 100_000 : r == 2 ? 99_999 : random.nextInt(60);
    }

    private int someCrew() {
        return random.nextInt(50) == 0 ? some(20) : random.nextInt(3);
    }

    private int somePerson() {
        return random.nextInt(8) == 0 ? some(50) : some(9);
    }

    private void change(int what) {
        int p = somePerson();
        int crew = someCrew();
        if (what < 3) {
            int r = some(10);
            int m = random.nextInt(3) == 0 ? some(4) : 2;
            answer("person", () -> { x.person(p, r, m); return 0; }, person(p, r, m));
        } else if (what < 9) {
            int skill = some(4);
            int hour = someHour();
            answer("skill", () -> { x.skill(p, skill, hour); return 0; }, skill(p, skill, hour));
        } else if (what < 14) {
            int begin = someHour() - random.nextInt(2);
            int end = random.nextInt(2) == 0 ? -1 : begin - random.nextInt(10) + 1;
            answer("duty", () -> { x.duty(p, begin, end); return 0; }, duty(p, begin, end));
        } else if (what < 15) {
            int kind = random.nextInt(12);
            answer("kind", () -> { x.kind(crew, kind); return 0; }, kind(crew, kind));
        } else if (what < 18) {
            answer("join", () -> x.join(crew, p), join(crew, p));
        } else {
            answer("leave", () -> x.leave(crew, p), leave(crew, p));
        }
    }

    private void ask(int what) {
        int crew = someCrew();
        int hour = someHour();
        if (what < 30) {
            int due = verdict(crew, hour);
            if (due >= 0) {
                answersSeen[due]++;
            }
            answer("verdict", () -> x.verdict(crew, hour), due);
        } else if (what < 32) {
            answer("counts", () -> x.counts(crew), noCrew(crew) ? REFUSED_UNKNOWN : counting(crew).size());
        } else if (what < 34) {
            int skill = some(10);
            int r = some(10);
            answer("having", () -> x.having(crew, skill, r, hour), having(crew, skill, r, hour));
        } else if (what < 36) {
            answer("leader", () -> x.leader(crew), leader(crew));
        } else if (what < 38) {
            int i = some(4);
            answer("never", () -> x.never(hour, i), never(hour, i));
        } else if (what < 39) {
            int kind = random.nextInt(11);
            int part = some(5);
            answer("rule", () -> x.rule(kind, part), rule(kind, part));
        } else {
            answer("place", x::place, place);
        }
    }

    private interface Call {
        int run();
    }

    private void answer(String name, Call call, int due) {
        int[] got = {0};
        RuntimeException thrown = Check.thrownBy(() -> got[0] = call.run());
        Check.due(name + " as call " + calls, thrown == null ? got[0] : refusal(thrown), due);
    }

    private static int refusal(RuntimeException thrown) {
        Class<?> c = thrown.getClass();
        return c == IllegalArgumentException.class ? REFUSED_UNKNOWN
            : c == IndexOutOfBoundsException.class ? REFUSED_RANGE
            : c == IllegalStateException.class ? REFUSED_STATE
            : c == UnsupportedOperationException.class ? REFUSED_ROOM : -999;
    }

    private void readText() {
        TreeMap<Integer, Rule> newRules = new TreeMap<>();
        List<Substitute> newSubstitutes = new ArrayList<>();
        StringBuilder text = new StringBuilder();
        for (int i = random.nextInt(4); i >= 0; i--) {
            int kind = 1 + random.nextInt(i == 0 ? 1 : 9);
            if (!newRules.containsKey(kind)) {
                newRules.put(kind, writeRule(text, kind));
            }
        }
        for (int i = random.nextInt(4); i > 0; i--) {
            newSubstitutes.add(writeSubstitute(text));
        }
        boolean wrong = random.nextInt(5) == 0 && calls > 0;
        place = wrong ? text.length() : -1;
        Check.tape(x, wrong ? text + "!v" : text.toString());
        calls += text.length() / 8 + 2;
        answer("read", x::read, wrong ? REFUSED_STATE : newRules.size());
        if (!wrong) {
            rules = newRules;
            substitutes = newSubstitutes;
        }
    }

    private Rule writeRule(StringBuilder text, int kind) {
        int least = random.nextInt(3);
        int greatest = least + random.nextInt(4);
        int rest = random.nextInt(2) == 0 ? -1 : random.nextInt(6);
        int longest = random.nextInt(3) != 0 ? -1 : 30 + random.nextInt(19);
        List<Need> needs = new ArrayList<>();
        text.append('v').append(kind).append(':').append(least).append('-').append(greatest);
        text.append(rest < 0 ? "" : "~" + rest).append(longest < 0 ? "" : "^" + longest);
        for (int i = random.nextInt(4); i > 0; i--) {
            Need need = new Need(random.nextInt(3) == 0, random.nextInt(3), random.nextInt(4), random.nextInt(6));
            needs.add(need);
            text.append(need.exact ? ",=" : ",").append(need.number).append((char) ('a' + need.skill));
            text.append(need.rank == 0 && random.nextBoolean() ? "" : ">" + need.rank);
        }
        text.append(';');
        return new Rule(least, greatest, rest, longest, needs);
    }

    private Substitute writeSubstitute(StringBuilder text) {
        int skill = random.nextInt(4);
        int other = (skill + 1 + random.nextInt(3)) % 4;
        Substitute made = new Substitute(skill, other, random.nextInt(24), random.nextInt(24));
        text.append('s').append((char) ('a' + skill)).append('=').append((char) ('a' + other));
        text.append('[').append(made.first).append('-').append(made.last).append("];");
        return made;
    }

    private static boolean noPerson(int p) {
        return p < 0 || p > 49;
    }

    private static boolean noCrew(int crew) {
        return crew < 0 || crew > 19;
    }

    private static boolean noHour(int hour) {
        return hour < 0 || hour > 99_999;
    }

    private int person(int p, int r, int m) {
        if (noPerson(p)) {
            return REFUSED_UNKNOWN;
        }
        if (r < 0 || r > 9 || m < 0 || m > 3) {
            return REFUSED_RANGE;
        }
        rank[p] = r;
        marks[p] = m;
        return 0;
    }

    private int skill(int p, int skill, int hour) {
        if (noPerson(p) || skill < 0 || skill > 9) {
            return REFUSED_UNKNOWN;
        }
        if (noHour(hour)) {
            return REFUSED_RANGE;
        }
        until[p][skill] = hour;
        return 0;
    }

    private int duty(int p, int begin, int end) {
        if (noPerson(p)) {
            return REFUSED_UNKNOWN;
        }
        boolean bothTold = begin != -1 && end != -1;
        if (begin != -1 && noHour(begin) || end != -1 && noHour(end) || bothTold && end > begin) {
            return REFUSED_RANGE;
        }
        from[p] = begin;
        before[p] = end;
        return 0;
    }

    private int kind(int crew, int kind) {
        if (noCrew(crew)) {
            return REFUSED_UNKNOWN;
        }
        if (kind < 1 || kind > 9) {
            return REFUSED_RANGE;
        }
        kinds[crew] = kind;
        return 0;
    }

    private int join(int crew, int p) {
        if (noCrew(crew) || noPerson(p)) {
            return REFUSED_UNKNOWN;
        }
        if (crews.get(crew).contains(p)) {
            return REFUSED_STATE;
        }
        if (crews.get(crew).size() == 12) {
            return REFUSED_ROOM;
        }
        crews.get(crew).add(p);
        return crews.get(crew).size();
    }

    private int leave(int crew, int p) {
        if (noCrew(crew) || noPerson(p)) {
            return REFUSED_UNKNOWN;
        }
        return crews.get(crew).remove(p) ? crews.get(crew).size() : REFUSED_STATE;
    }

    private boolean isInTwo(int p) {
        return crews.stream().filter(c -> c.contains(p)).count() >= 2;
    }

    private List<Integer> counting(int crew) {
        List<Integer> alone = crews.get(crew).stream().filter(p -> !isInTwo(p)).toList();
        boolean mentored = alone.stream().anyMatch(p -> marks[p] == 2);
        return alone.stream().filter(p -> mentored || marks[p] % 2 == 0).toList();
    }

    private boolean hasOrStandsIn(int p, int skill, int hour) {
        boolean yes = until[p][skill] > hour;
        for (Substitute s : substitutes) {
            boolean now = false;
            int h = s.first;
            for (int steps = 0; steps < 24; steps++) {
                now |= h == hour % 24;
                if (h == s.last) {
                    break;
                }
                h = (h + 1) % 24;
            }
            yes |= s.skill == skill && now && until[p][s.other] > hour;
        }
        return yes;
    }

    private int skilled(List<Integer> persons, int skill, int r, int hour) {
        return (int) persons.stream()
            .filter(p -> marks[p] % 2 == 0 && rank[p] >= r && hasOrStandsIn(p, skill, hour)).count();
    }

    private int having(int crew, int skill, int r, int hour) {
        if (noCrew(crew) || skill < 0 || skill > 9) {
            return REFUSED_UNKNOWN;
        }
        return noHour(hour) || r < 0 || r > 9 ? REFUSED_RANGE : skilled(counting(crew), skill, r, hour);
    }

    private int verdict(int crew, int hour) {
        if (noCrew(crew)) {
            return REFUSED_UNKNOWN;
        }
        if (noHour(hour)) {
            return REFUSED_RANGE;
        }
        Rule rule = rules.get(kinds[crew]);
        if (rule == null) {
            return 1;
        }
        if (crews.get(crew).stream().anyMatch(this::isInTwo)) {
            return 2;
        }
        List<Integer> who = counting(crew);
        if (who.size() < rule.least) {
            return 3;
        }
        if (who.size() > rule.greatest) {
            return 4;
        }
        if (rule.rest >= 0 && who.stream().anyMatch(p -> from[p] >= 0 && before[p] >= 0 && from[p] - before[p] < rule.rest)) {
            return 5;
        }
        if (rule.longest >= 0 && who.stream().anyMatch(p -> from[p] < 0 || from[p] > hour || hour - from[p] > rule.longest)) {
            return 6;
        }
        for (Need need : rule.needs) {
            int have = skilled(who, need.skill, need.rank, hour);
            if (need.exact ? have != need.number : have < need.number) {
                return 10 + rule.needs.indexOf(need);
            }
        }
        return 0;
    }

    private int leader(int crew) {
        if (noCrew(crew)) {
            return REFUSED_UNKNOWN;
        }
        int best = -1;
        for (int r = 0; r <= 9; r++) {
            int wanted = r;
            best = counting(crew).stream().filter(p -> marks[p] % 2 == 0 && rank[p] == wanted).findFirst().orElse(best);
        }
        return best;
    }

    private int never(int hour, int i) {
        if (i < 0 || noHour(hour)) {
            return REFUSED_RANGE;
        }
        List<Integer> all = new ArrayList<>();
        int skilledAtAll = 0;
        for (int p = 0; p < 50; p++) {
            all.add(p);
            boolean some = false;
            for (int hourOfEnd : until[p]) {
                some |= hourOfEnd > hour;
            }
            skilledAtAll += some ? 1 : 0;
        }
        List<Integer> found = new ArrayList<>();
        for (int kind : rules.keySet()) {
            Rule rule = rules.get(kind);
            boolean beyond = rule.least > skilledAtAll;
            for (Need need : rule.needs) {
                beyond |= need.number > skilled(all, need.skill, need.rank, hour);
            }
            if (beyond) {
                found.add(kind);
            }
        }
        return i < found.size() ? found.get(i) : 0;
    }

    private int rule(int kind, int part) {
        Rule rule = rules.get(kind);
        if (rule == null || part < 0 || part > 4) {
            return REFUSED_UNKNOWN;
        }
        return new int[] {rule.least, rule.greatest, rule.rest, rule.longest, rule.needs.size()}[part];
    }
}
