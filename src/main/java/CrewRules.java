/** Rules for crews, read from a text, and verdicts on crews at an hour. */
public final class CrewRules {
    private static final int PERSONS = 50;
    private static final int CREWS = 20;
    private static final int CREW_ROOM = 12;
    private static final int SKILLS = 10;
    private static final int LAST_KIND = 9;
    private static final int LAST_RANK = 9;
    private static final int LAST_MARKS = 3;
    private static final int LAST_HOUR = 99_999;
    private static final int HOURS_OF_DAY = 24;
    private static final int NONE = -1;

    private final Tape tape;
    private final Parser parser;
    private final People people;
    private final Crews crews;
    private final Group group;
    private RuleBook book;
    // A text is read into the spare book, so that a wrong one leaves the rules as they are.
    private RuleBook spare;
    private int wrongAt;

    public CrewRules() {
        tape = new Tape();
        parser = new Parser(tape);
        people = new People();
        crews = new Crews();
        group = new Group(people, crews);
        book = new RuleBook();
        spare = new RuleBook();
        wrongAt = NONE;
    }

    public int sign(long bytes, int n) throws IndexOutOfBoundsException, UnsupportedOperationException {
        if (n < 1 || n > Tape.BYTES_AT_ONCE) {
            throw new IndexOutOfBoundsException("not 1 to 8 bytes");
        }
        if (tape.length + n > Tape.ROOM) {
            throw new UnsupportedOperationException("the tape has room for 300 bytes");
        }
        for (int i = n - 1; i >= 0; i--) {
            tape.append((int) (bytes >>> (8 * i)) & 0xff);
        }
        return tape.length;
    }

    public int read() throws IllegalStateException {
        wrongAt = parser.parse(spare);
        tape.clear();
        if (wrongAt != NONE) {
            throw new IllegalStateException("the text is wrong");
        }
        RuleBook old = book;
        book = spare;
        spare = old;
        return book.ruleCount;
    }

    public int place() {
        return wrongAt;
    }

    public void person(int p, int rank, int marks) throws IllegalArgumentException, IndexOutOfBoundsException {
        requirePerson(p);
        requireRank(rank);
        if (marks < 0 || marks > LAST_MARKS) {
            throw new IndexOutOfBoundsException("marks are 0 to 3");
        }
        people.rank[p] = rank;
        people.marks[p] = marks;
    }

    public void skill(int p, int skill, int until) throws IllegalArgumentException, IndexOutOfBoundsException {
        requirePerson(p);
        requireSkill(skill);
        requireHour(until);
        people.until[p * SKILLS + skill] = until;
    }

    public void duty(int p, int from, int before) throws IllegalArgumentException, IndexOutOfBoundsException {
        requirePerson(p);
        if (from != NONE) {
            requireHour(from);
        }
        if (before != NONE) {
            requireHour(before);
        }
        if (from != NONE && before > from) {
            throw new IndexOutOfBoundsException("the duty before ended after this one began");
        }
        people.from[p] = from;
        people.before[p] = before;
    }

    public void kind(int crew, int kind) throws IllegalArgumentException, IndexOutOfBoundsException {
        requireCrew(crew);
        if (kind < 1 || kind > LAST_KIND) {
            throw new IndexOutOfBoundsException("kinds are 1 to 9");
        }
        crews.kinds[crew] = kind;
    }

    public int join(int crew, int p) throws IllegalArgumentException, IllegalStateException, UnsupportedOperationException {
        requireCrew(crew);
        requirePerson(p);
        if (crews.has(crew, p)) {
            throw new IllegalStateException("the person is in the crew");
        }
        if (crews.sizes[crew] >= CREW_ROOM) {
            throw new UnsupportedOperationException("the crew has room for 12");
        }
        crews.add(crew, p);
        return crews.sizes[crew];
    }

    public int leave(int crew, int p) throws IllegalArgumentException, IllegalStateException {
        requireCrew(crew);
        requirePerson(p);
        if (!crews.has(crew, p)) {
            throw new IllegalStateException("the person is not in the crew");
        }
        crews.remove(crew, p);
        return crews.sizes[crew];
    }

    public int verdict(int crew, int hour) throws IllegalArgumentException, IndexOutOfBoundsException {
        requireCrew(crew);
        requireHour(hour);
        int kind = crews.kinds[crew];
        if (!book.has(kind)) {
            return 1;
        }
        if (crews.sharesSomeone(crew)) {
            return 2;
        }
        group.gatherCrew(crew);
        if (group.size < book.least[kind]) {
            return 3;
        }
        if (group.size > book.greatest[kind]) {
            return 4;
        }
        if (book.rest[kind] != NONE && group.someoneRestedLessThan(book.rest[kind])) {
            return 5;
        }
        if (book.longest[kind] != NONE && group.someoneOnDutyBeyond(book.longest[kind], hour)) {
            return 6;
        }
        int unmet = firstUnmetNeed(kind, hour);
        return unmet == NONE ? 0 : 10 + unmet;
    }

    public int counts(int crew) throws IllegalArgumentException {
        requireCrew(crew);
        group.gatherCrew(crew);
        return group.size;
    }

    public int having(int crew, int skill, int rank, int hour) throws IllegalArgumentException, IndexOutOfBoundsException {
        requireCrew(crew);
        requireSkill(skill);
        requireHour(hour);
        requireRank(rank);
        group.gatherCrew(crew);
        group.noteSkills(hour);
        return group.countSkilled(book.acceptedFor(skill, hour), rank);
    }

    public int leader(int crew) throws IllegalArgumentException {
        requireCrew(crew);
        group.gatherCrew(crew);
        return group.highestInRank();
    }

    public int never(int hour, int i) throws IndexOutOfBoundsException {
        if (i < 0) {
            throw new IndexOutOfBoundsException("places begin with 0");
        }
        requireHour(hour);
        group.gatherAll();
        group.noteSkills(hour);
        int found = 0;
        for (int kind = 1; kind <= LAST_KIND; kind++) {
            if (book.has(kind) && isBeyondGroup(kind, hour)) {
                if (found == i) {
                    return kind;
                }
                found++;
            }
        }
        return 0;
    }

    public int rule(int kind, int what) throws IllegalArgumentException {
        if (kind < 1 || kind > LAST_KIND || !book.has(kind)) {
            throw new IllegalArgumentException("there is no rule for this kind");
        }
        switch (what) {
            case 0:
                return book.least[kind];
            case 1:
                return book.greatest[kind];
            case 2:
                return book.rest[kind];
            case 3:
                return book.longest[kind];
            case 4:
                return book.needCount[kind];
            default:
                throw new IllegalArgumentException("a rule tells 0 to 4");
        }
    }

    private static void requirePerson(int p) {
        if (p < 0 || p >= PERSONS) {
            throw new IllegalArgumentException("persons are 0 to 49");
        }
    }

    private static void requireCrew(int crew) {
        if (crew < 0 || crew >= CREWS) {
            throw new IllegalArgumentException("crews are 0 to 19");
        }
    }

    private static void requireSkill(int skill) {
        if (skill < 0 || skill >= SKILLS) {
            throw new IllegalArgumentException("skills are 0 to 9");
        }
    }

    private static void requireRank(int rank) {
        if (rank < 0 || rank > LAST_RANK) {
            throw new IndexOutOfBoundsException("ranks are 0 to 9");
        }
    }

    private static void requireHour(int hour) {
        if (hour < 0 || hour > LAST_HOUR) {
            throw new IndexOutOfBoundsException("hours are 0 to 99999");
        }
    }

    /** Of the gathered group: the first need of the kind's rule that it does not meet, or NONE. */
    private int firstUnmetNeed(int kind, int hour) {
        group.noteSkills(hour);
        for (int i = 0; i < book.needCount[kind]; i++) {
            int need = RuleBook.needAt(kind, i);
            int skilled = countForNeed(need, hour);
            boolean tooMany = book.needExact[need] && skilled > book.needNumber[need];
            if (tooMany || skilled < book.needNumber[need]) {
                return i;
            }
        }
        return NONE;
    }

    /** Whether the gathered group, its skills noted, is too small for the kind's rule whatever crew is made of it. */
    private boolean isBeyondGroup(int kind, int hour) {
        if (book.least[kind] > group.countWithSomeSkill()) {
            return true;
        }
        for (int i = 0; i < book.needCount[kind]; i++) {
            int need = RuleBook.needAt(kind, i);
            if (book.needNumber[need] > countForNeed(need, hour)) {
                return true;
            }
        }
        return false;
    }

    private int countForNeed(int need, int hour) {
        return group.countSkilled(book.acceptedFor(book.needSkill[need], hour), book.needRank[need]);
    }

    /** The bytes that have come in and are not read yet. */
    private static final class Tape {
        static final int ROOM = 300;
        static final int BYTES_AT_ONCE = 8;
        static final int END = -1;

        private final int[] bytes = new int[ROOM];
        private int length;

        void append(int value) {
            if (length < ROOM) {
                bytes[length] = value;
                length++;
            }
        }

        void clear() {
            length = 0;
        }

        int byteAt(int i) {
            return i >= 0 && i < length ? bytes[i] : END;
        }
    }

    /**
     * Reads the tape from its begin to its end. Each take method moves on behind what it takes;
     * one that finds the text wrong leaves the wrong place in the field at.
     */
    private static final class Parser {
        private static final int WRONG = -1;

        private final Tape tape;
        private int at;

        Parser(Tape tape) {
            this.tape = tape;
        }

        /** Fills the book anew: NONE, or where the text is wrong. */
        int parse(RuleBook into) {
            into.clear();
            at = 0;
            for (int row = 0; row < Tape.ROOM && peek() != Tape.END; row++) {
                boolean right;
                if (take('v')) {
                    right = takeRule(into);
                } else {
                    right = into.hasRoomForSubstitute() && take('s') && takeSubstitute(into);
                }
                if (!right || !take(';')) {
                    return at;
                }
            }
            return NONE;
        }

        private boolean takeRule(RuleBook into) {
            int kind = takeRuleHead(into);
            if (kind == WRONG || !takeRest(into, kind) || !takeLongest(into, kind)) {
                return false;
            }
            for (int i = 0; i < RuleBook.NEEDS && take(','); i++) {
                if (!takeNeed(into, kind)) {
                    return false;
                }
            }
            return true;
        }

        /** A rule from its kind to its greatest number: the kind. */
        private int takeRuleHead(RuleBook into) {
            int kind = takeNumber(1, LAST_KIND);
            if (kind == WRONG) {
                return WRONG;
            }
            if (into.has(kind)) {
                at--;
                return WRONG;
            }
            if (!take(':')) {
                return WRONG;
            }
            int least = takeNumber(0, RuleBook.MOST_PERSONS);
            if (least == WRONG || !take('-')) {
                return WRONG;
            }
            int greatest = takeNumber(least, RuleBook.MOST_PERSONS);
            if (greatest == WRONG) {
                return WRONG;
            }
            into.addRule(kind, least, greatest);
            return kind;
        }

        private boolean takeRest(RuleBook into, int kind) {
            if (!take('~')) {
                return true;
            }
            into.rest[kind] = takeNumber(0, RuleBook.MOST_REST);
            return into.rest[kind] != WRONG;
        }

        private boolean takeLongest(RuleBook into, int kind) {
            if (!take('^')) {
                return true;
            }
            into.longest[kind] = takeNumber(1, RuleBook.LONGEST_DUTY);
            return into.longest[kind] != WRONG;
        }

        private boolean takeNeed(RuleBook into, int kind) {
            boolean exact = take('=');
            int number = takeNumber(0, RuleBook.MOST_PERSONS);
            if (number == WRONG) {
                return false;
            }
            int skill = takeSkill();
            if (skill == WRONG) {
                return false;
            }
            int rank = take('>') ? takeNumber(0, LAST_RANK) : 0;
            if (rank == WRONG) {
                return false;
            }
            into.addNeed(kind, exact, number, skill, rank);
            return true;
        }

        private boolean takeSubstitute(RuleBook into) {
            int skill = takeSkill();
            if (skill == WRONG || !take('=')) {
                return false;
            }
            int other = takeSkill();
            if (other == WRONG) {
                return false;
            }
            if (other == skill) {
                at--;
                return false;
            }
            if (!take('[')) {
                return false;
            }
            int first = takeNumber(0, HOURS_OF_DAY - 1);
            if (first == WRONG || !take('-')) {
                return false;
            }
            int last = takeNumber(0, HOURS_OF_DAY - 1);
            if (last == WRONG || !take(']')) {
                return false;
            }
            into.addSubstitute(skill, other, first, last);
            return true;
        }

        private int takeSkill() {
            int skill = peek() - 'a';
            if (skill < 0 || skill >= SKILLS) {
                return WRONG;
            }
            at++;
            return skill;
        }

        /** A number low .. high. Two digits are looked at before it is judged, as the document places its faults. */
        private int takeNumber(int low, int high) {
            peek();
            int number = digitAt(at);
            if (number == WRONG) {
                return WRONG;
            }
            int second = digitAt(at + 1);
            if (second != WRONG) {
                if (number == 0) {
                    at += low > 0 ? 0 : 1;
                    return WRONG;
                }
                at++;
                number = number * 10 + second;
            }
            if (number < low || number > high) {
                return WRONG;
            }
            at++;
            return number;
        }

        private int digitAt(int i) {
            int digit = tape.byteAt(i) - '0';
            return digit >= 0 && digit <= 9 ? digit : WRONG;
        }

        private boolean take(int sign) {
            if (peek() != sign) {
                return false;
            }
            at++;
            return true;
        }

        /** The next byte that is no blank, or the tape's end; it is not taken. */
        private int peek() {
            while (at < tape.length && tape.byteAt(at) == ' ') {
                at++;
            }
            return tape.byteAt(at);
        }
    }

    /** The rules and substitutes of one text, the rules by their kinds. */
    private static final class RuleBook {
        static final int NEEDS = 6;
        static final int SUBSTITUTES = 10;
        static final int MOST_PERSONS = 9;
        static final int MOST_REST = 24;
        static final int LONGEST_DUTY = 48;
        private static final int KIND_ROOM = LAST_KIND + 1;

        // NONE where a kind has no rule.
        private final int[] least = new int[KIND_ROOM];
        private final int[] greatest = new int[KIND_ROOM];
        private final int[] rest = new int[KIND_ROOM];
        private final int[] longest = new int[KIND_ROOM];
        private final int[] needCount = new int[KIND_ROOM];
        private int ruleCount;

        private final boolean[] needExact = new boolean[KIND_ROOM * NEEDS];
        private final int[] needNumber = new int[KIND_ROOM * NEEDS];
        private final int[] needSkill = new int[KIND_ROOM * NEEDS];
        private final int[] needRank = new int[KIND_ROOM * NEEDS];

        private final int[] wanted = new int[SUBSTITUTES];
        private final int[] standIn = new int[SUBSTITUTES];
        private final int[] firstHour = new int[SUBSTITUTES];
        private final int[] lastHour = new int[SUBSTITUTES];
        private int substituteCount;

        RuleBook() {
            clear();
        }

        void clear() {
            for (int kind = 0; kind < KIND_ROOM; kind++) {
                least[kind] = NONE;
            }
            ruleCount = 0;
            substituteCount = 0;
        }

        boolean has(int kind) {
            return least[kind] != NONE;
        }

        void addRule(int kind, int fewest, int most) {
            least[kind] = fewest;
            greatest[kind] = most;
            rest[kind] = NONE;
            longest[kind] = NONE;
            needCount[kind] = 0;
            ruleCount++;
        }

        /** Where need i of a kind stands in the rows of needs. */
        static int needAt(int kind, int i) {
            return kind * NEEDS + i;
        }

        void addNeed(int kind, boolean exact, int number, int skill, int rank) {
            if (needCount[kind] >= NEEDS) {
                return;
            }
            int need = needAt(kind, needCount[kind]);
            needExact[need] = exact;
            needNumber[need] = number;
            needSkill[need] = skill;
            needRank[need] = rank;
            needCount[kind]++;
        }

        boolean hasRoomForSubstitute() {
            return substituteCount < SUBSTITUTES;
        }

        void addSubstitute(int skill, int other, int first, int last) {
            if (!hasRoomForSubstitute()) {
                return;
            }
            wanted[substituteCount] = skill;
            standIn[substituteCount] = other;
            firstHour[substituteCount] = first;
            lastHour[substituteCount] = last;
            substituteCount++;
        }

        /** The skills, a bit each, that count as the one told at an hour. */
        int acceptedFor(int skill, int hour) {
            int accepted = 1 << skill;
            int hourOfDay = hour % HOURS_OF_DAY;
            for (int i = 0; i < substituteCount; i++) {
                if (wanted[i] == skill && isWithin(hourOfDay, firstHour[i], lastHour[i])) {
                    accepted |= 1 << standIn[i];
                }
            }
            return accepted;
        }

        private static boolean isWithin(int hourOfDay, int first, int last) {
            if (last < first) {
                return hourOfDay >= first || hourOfDay <= last;
            }
            return hourOfDay >= first && hourOfDay <= last;
        }
    }

    /** What is told of each person. */
    private static final class People {
        private static final int LEARNER = 1;
        private static final int MENTOR = 2;

        private final int[] rank = new int[PERSONS];
        private final int[] marks = new int[PERSONS];
        private final int[] from = new int[PERSONS];
        private final int[] before = new int[PERSONS];
        private final int[] until = new int[PERSONS * SKILLS];

        People() {
            for (int p = 0; p < PERSONS; p++) {
                from[p] = NONE;
                before[p] = NONE;
            }
        }

        boolean isLearner(int p) {
            return (marks[p] & LEARNER) != 0;
        }

        /** A mentor who is a learner, too, is none for others. */
        boolean isFullMentor(int p) {
            return marks[p] == MENTOR;
        }

        /** The skills, a bit each, that a person has at an hour. */
        int skillsAt(int p, int hour) {
            int held = 0;
            for (int skill = 0; skill < SKILLS; skill++) {
                if (hour < until[p * SKILLS + skill]) {
                    held |= 1 << skill;
                }
            }
            return held;
        }

        boolean restedLessThan(int p, int hours) {
            return from[p] != NONE && before[p] != NONE && from[p] - before[p] < hours;
        }

        boolean hasBegun(int p, int hour) {
            return from[p] != NONE && from[p] <= hour;
        }
    }

    /** Who is in which crew. */
    private static final class Crews {
        private final int[] kinds = new int[CREWS];
        private final int[] sizes = new int[CREWS];
        // A bit for each person.
        private final long[] members = new long[CREWS];
        private final int[] crewsOf = new int[PERSONS];

        Crews() {
            for (int crew = 0; crew < CREWS; crew++) {
                kinds[crew] = 1;
            }
        }

        boolean has(int crew, int p) {
            return (members[crew] & (1L << p)) != 0;
        }

        void add(int crew, int p) {
            members[crew] |= 1L << p;
            sizes[crew]++;
            crewsOf[p]++;
        }

        void remove(int crew, int p) {
            members[crew] &= ~(1L << p);
            sizes[crew]--;
            crewsOf[p]--;
        }

        boolean hasAlone(int crew, int p) {
            return has(crew, p) && crewsOf[p] == 1;
        }

        boolean sharesSomeone(int crew) {
            for (int p = 0; p < PERSONS; p++) {
                if (has(crew, p) && crewsOf[p] > 1) {
                    return true;
                }
            }
            return false;
        }
    }

    /** Persons looked at together, rising: those who count in a crew, or all. It is gathered anew for each call. */
    private static final class Group {
        private final People people;
        private final Crews crews;
        private final int[] who = new int[PERSONS];
        private final int[] held = new int[PERSONS];
        private int size;

        Group(People people, Crews crews) {
            this.people = people;
            this.crews = crews;
        }

        void gatherAll() {
            for (int p = 0; p < PERSONS; p++) {
                who[p] = p;
            }
            size = PERSONS;
        }

        void gatherCrew(int crew) {
            boolean mentored = hasFullMentor(crew);
            size = 0;
            for (int p = 0; p < PERSONS; p++) {
                if (crews.hasAlone(crew, p) && (mentored || !people.isLearner(p))) {
                    who[size] = p;
                    size++;
                }
            }
        }

        private boolean hasFullMentor(int crew) {
            for (int p = 0; p < PERSONS; p++) {
                if (crews.hasAlone(crew, p) && people.isFullMentor(p)) {
                    return true;
                }
            }
            return false;
        }

        /** Looks up once what each has at the hour, for the counts that follow. */
        void noteSkills(int hour) {
            for (int i = 0; i < size; i++) {
                held[i] = people.skillsAt(who[i], hour);
            }
        }

        int countWithSomeSkill() {
            int count = 0;
            for (int i = 0; i < size; i++) {
                if (held[i] != 0) {
                    count++;
                }
            }
            return count;
        }

        /** How many, learners not, had one of the accepted skills when skills were noted, and have the rank. */
        int countSkilled(int accepted, int rank) {
            int count = 0;
            for (int i = 0; i < size; i++) {
                int p = who[i];
                if ((held[i] & accepted) != 0 && people.rank[p] >= rank && !people.isLearner(p)) {
                    count++;
                }
            }
            return count;
        }

        boolean someoneRestedLessThan(int hours) {
            for (int i = 0; i < size; i++) {
                if (people.restedLessThan(who[i], hours)) {
                    return true;
                }
            }
            return false;
        }

        boolean someoneOnDutyBeyond(int hours, int hour) {
            for (int i = 0; i < size; i++) {
                int p = who[i];
                if (!people.hasBegun(p, hour) || hour - people.from[p] > hours) {
                    return true;
                }
            }
            return false;
        }

        /** Of those who are no learners; the first of several with the same rank. */
        int highestInRank() {
            int best = NONE;
            for (int i = 0; i < size; i++) {
                int p = who[i];
                if (!people.isLearner(p) && (best == NONE || people.rank[p] > people.rank[best])) {
                    best = p;
                }
            }
            return best;
        }
    }
}
