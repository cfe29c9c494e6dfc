import java.util.ArrayList;

/**
 * Justice in an army: persons, charges, minor punishment, courts, action and
 * appeals, as the promises of ../shared/DOC.md tell them.
 */
public final class MartialHall {
    public static final int NONE = -1;
    public static final int CIVIL = 0, ACTIVE = 1, LEAVE = 2, PRISONER = 3, FOLLOWER = 4;
    public static final int CHARGED = 0, PUNISHED = 1, REFERRED = 2, TRIED = 3, ACTED = 4, CLOSED = 5;
    public static final int SUMMARY = 0, SPECIAL = 1, GENERAL = 2;

    private static final int MAX_CALLS = 512;
    private static final int MAX_PERSONS = 12;
    private static final int MAX_RANK = 9;
    private static final int LEAST_OFFICER = 4;
    private static final int MAX_PASS = 400;
    private static final int MAX_LETTERS = 12;
    private static final int MAX_CASES = 20;
    private static final int MAX_PUNISHMENT = 99;
    private static final int PUNISHMENT_FOR_RANK = 3;
    private static final int MAX_CLOCK = 120;
    private static final int MAX_MEMBERS = 9;
    private static final int MAX_DAYS = 999;
    private static final int DAYS_OF_TWO_THIRDS = 100;

    private static final int ACQUITTED = 0, LESSER = 1, WHOLE = 2;
    private static final int UNRESTRAINED = 0, CLOSELY_RESTRAINED = 2;

    private static final int ABSENCE_DAYS = 60;
    private static final int DISRESPECT_DAYS = 180;
    private static final int ASSAULT_DAYS = 200;

    private static final Offence[] OFFENCES = Offence.values();
    private static final Court[] COURTS = Court.values();

    private final ArrayList<Person> persons;
    private final ArrayList<Case> cases;
    private final StringBuilder word;
    private int today;
    private boolean isInField;
    private boolean isAway;

    public MartialHall() {
        persons = new ArrayList<>();
        cases = new ArrayList<>();
        word = new StringBuilder();
    }

    // ---- persons

    public int person(int rank) throws IllegalArgumentException, IllegalStateException {
        if (rank < 0 || rank > MAX_RANK) {
            throw new IllegalArgumentException("a rank is 0 to 9");
        }
        if (persons.size() >= MAX_PERSONS) {
            throw new IllegalStateException("there are 12 persons");
        }
        int number = persons.size();
        persons.add(new Person(number, rank));
        return number;
    }

    public void status(int person, int status) throws IndexOutOfBoundsException, IllegalArgumentException {
        Person told = personAt(person);
        if (status < CIVIL || status > FOLLOWER) {
            throw new IllegalArgumentException("a status is CIVIL to FOLLOWER");
        }
        told.tellStatus(today, status);
    }

    public int statusOn(int person, int day) throws IndexOutOfBoundsException, IllegalArgumentException {
        Person asked = personAt(person);
        if (day < 0 || day > today) {
            throw new IllegalArgumentException("a day is 0 to today");
        }
        return asked.statusAt(day);
    }

    public boolean isUnder(int person) throws IndexOutOfBoundsException {
        return isUnderLaw(personAt(person));
    }

    public void command(int person, int by) throws IndexOutOfBoundsException, IllegalArgumentException {
        Person lower = personAt(person);
        if (by == NONE) {
            lower.commander = null;
            return;
        }
        Person commander = personAt(by);
        if (commander.rank <= lower.rank) {
            throw new IllegalArgumentException("a commander's rank is above");
        }
        lower.commander = commander;
    }

    public boolean isInChain(int person, int by) throws IndexOutOfBoundsException {
        Person lower = personAt(person);
        return lower.hasAbove(personAt(by));
    }

    public void place(boolean isField, boolean isAbroad) {
        isInField = isField;
        isAway = isAbroad;
    }

    public int pass(int days) throws IllegalArgumentException {
        if (days < 1 || days > MAX_PASS) {
            throw new IllegalArgumentException("1 to 400 days pass");
        }
        today += days;
        for (int i = 0; i < cases.size(); i++) {
            cases.get(i).age(days);
        }
        return today;
    }

    // ---- charges

    public int type(char letter) throws IllegalArgumentException, IllegalStateException {
        if (letter < 'A' || letter > 'Z') {
            throw new IllegalArgumentException("a letter is A to Z");
        }
        if (word.length() >= MAX_LETTERS) {
            throw new IllegalStateException("the word has 12 letters");
        }
        word.append(letter);
        return word.length();
    }

    public int charge(int person, int by)
            throws IndexOutOfBoundsException, IllegalArgumentException, IllegalStateException {
        Person accused = personAt(person);
        Person accuser = personAt(by);
        if (accused == accuser) {
            throw new IllegalArgumentException("another one accuses");
        }
        if (!isUnderLaw(accused) || cases.size() >= MAX_CASES) {
            throw new IllegalStateException("not under the law, or 20 cases");
        }
        Offence offence = offenceOf(word.toString());
        word.setLength(0);
        if (offence == null) {
            return NONE;
        }
        int number = cases.size();
        cases.add(new Case(accused, accuser, offence));
        return number;
    }

    public int caseIs(int number, int what) throws IndexOutOfBoundsException, IllegalArgumentException {
        Case asked = caseAt(number);
        switch (what) {
            case 0: return asked.state;
            case 1: return asked.person.number;
            case 2: return asked.clock;
            case 3: return asked.credit;
            case 4: return asked.days;
            case 5: return asked.finding;
            case 6: return asked.ceiling;
            case 7: return asked.offence.wholeDays;
            case 8: return asked.offence.lesserDays;
            default: throw new IllegalArgumentException("0 to 8 is asked");
        }
    }

    public int left(int number) throws IndexOutOfBoundsException {
        Case asked = caseAt(number);
        if (asked.state != PUNISHED && asked.state != ACTED) {
            return 0;
        }
        return Math.max(asked.days - asked.credit, 0);
    }

    public boolean stand(int number, boolean isStill) throws IndexOutOfBoundsException {
        Case stopped = caseAt(number);
        boolean stood = stopped.standsStill;
        stopped.standsStill = isStill;
        return stood;
    }

    public int restrain(int number, int grade) throws IndexOutOfBoundsException, IllegalArgumentException {
        Case restrained = caseAt(number);
        if (grade < UNRESTRAINED || grade > CLOSELY_RESTRAINED) {
            throw new IllegalArgumentException("a grade is 0 to 2");
        }
        int before = restrained.restraint;
        restrained.restraint = grade;
        return before;
    }

    public void waive(int number) throws IndexOutOfBoundsException {
        caseAt(number).isWaived = true;
    }

    // ---- minor punishment

    public void refuse(int number) throws IndexOutOfBoundsException, IllegalStateException {
        Case refused = caseAt(number);
        if (refused.state != CHARGED || isInField) {
            throw new IllegalStateException("not CHARGED, or in the field");
        }
        refused.isRefused = true;
    }

    public void punish(int number, int by, int days)
            throws IndexOutOfBoundsException, IllegalArgumentException, IllegalStateException {
        Case punished = caseAt(number);
        Person punisher = personAt(by);
        if (days < 1 || days > MAX_PUNISHMENT) {
            throw new IllegalArgumentException("a punishment is 1 to 99 days");
        }
        if (!punished.canBePunishedBy(punisher, days)) {
            throw new IllegalStateException("that one may not punish so");
        }
        punished.state = PUNISHED;
        punished.punisher = punisher;
        punished.days = days;
    }

    public void setAside(int number, int by, int days)
            throws IndexOutOfBoundsException, IllegalArgumentException, IllegalStateException {
        Case lowered = caseAt(number);
        Person superior = personAt(by);
        if (days < 0 || (days > 0 && days >= lowered.days)) {
            throw new IllegalArgumentException("0, or less than it has");
        }
        if (lowered.state != PUNISHED || !Person.isAbove(superior, lowered.punisher)) {
            throw new IllegalStateException("not PUNISHED, or that one may not");
        }
        lowered.days = days;
        if (days == 0) {
            lowered.state = CLOSED;
        }
    }

    // ---- courts

    public int refer(int number, int by, int court)
            throws IndexOutOfBoundsException, IllegalArgumentException, IllegalStateException {
        Case referred = caseAt(number);
        Person referrer = personAt(by);
        if (court < 0 || court >= COURTS.length) {
            throw new IllegalArgumentException("a court is SUMMARY to GENERAL");
        }
        if (!canBeReferred(referred, referrer, COURTS[court])) {
            throw new IllegalStateException("that one may not refer it so");
        }
        if (referred.clock > MAX_CLOCK) {
            referred.state = CLOSED;
        } else {
            referred.convene(referrer, COURTS[court]);
        }
        return referred.state;
    }

    public void withdraw(int number) throws IndexOutOfBoundsException, IllegalStateException {
        Case withdrawn = caseAt(number);
        if (withdrawn.state != REFERRED) {
            throw new IllegalStateException("not REFERRED");
        }
        withdrawn.chargeAgain();
    }

    public void request(int number) throws IndexOutOfBoundsException, IllegalStateException {
        Case requested = caseAt(number);
        if (!requested.person.isMan() || requested.state == CLOSED) {
            throw new IllegalStateException("an officer's, or CLOSED");
        }
        requested.isRequested = true;
    }

    public int detail(int number, int member) throws IndexOutOfBoundsException, IllegalStateException {
        Case detailed = caseAt(number);
        Person person = personAt(member);
        if (detailed.state != REFERRED || !detailed.canSeat(person)) {
            throw new IllegalStateException("not REFERRED, or that one may not be a member");
        }
        detailed.bench.seat(person);
        return detailed.bench.size();
    }

    public int challenge(int number, int member) throws IndexOutOfBoundsException, IllegalStateException {
        Case challenged = caseAt(number);
        Person person = personAt(member);
        if (challenged.state != REFERRED || challenged.bench.memberFor(person) == null) {
            throw new IllegalStateException("not REFERRED, or no member");
        }
        challenged.bench.unseat(person);
        return challenged.bench.size();
    }

    public boolean talk(int number, int by, int to) throws IndexOutOfBoundsException {
        Case talkedOf = caseAt(number);
        Person talker = personAt(by);
        Person listener = personAt(to);
        if (talker.rank > listener.rank) {
            talkedOf.bench.taint(listener);
        }
        return talkedOf.bench.isTainted(listener);
    }

    public void vote(int number, int member, int finding, int days)
            throws IndexOutOfBoundsException, IllegalArgumentException, IllegalStateException {
        Case voted = caseAt(number);
        Member voter = voted.bench.memberFor(personAt(member));
        if (finding < ACQUITTED || finding > WHOLE || days < 0 || days > MAX_DAYS) {
            throw new IllegalArgumentException("a finding is 0 to 2, days are 0 to 999");
        }
        if (voted.state != REFERRED || voter == null) {
            throw new IllegalStateException("not REFERRED, or no member");
        }
        voter.hasVoted = true;
        voter.finding = finding;
        voter.days = days;
    }

    public int close(int number) throws IndexOutOfBoundsException, IllegalStateException {
        Case tried = caseAt(number);
        if (tried.state != REFERRED) {
            throw new IllegalStateException("not REFERRED");
        }
        if (!tried.bench.isReady(tried.leastMembers, tried.isRequested)) {
            return NONE;
        }
        tried.judge();
        return tried.state;
    }

    public int sentenceAnew(int number) throws IndexOutOfBoundsException {
        Case asked = caseAt(number);
        if (asked.state != TRIED && asked.state != ACTED) {
            return NONE;
        }
        return asked.sentenceByTrial();
    }

    // ---- action

    public void act(int number, int by, int days)
            throws IndexOutOfBoundsException, IllegalArgumentException, IllegalStateException {
        Case acted = caseAt(number);
        Person actor = personAt(by);
        if (days < 0 || days > acted.days) {
            throw new IllegalArgumentException("0 to its days");
        }
        if (acted.state != TRIED || acted.referrer != actor) {
            throw new IllegalStateException("not TRIED, or that one did not refer it");
        }
        acted.state = ACTED;
        acted.days = days;
    }

    public void appeal(int number, int by, int days)
            throws IndexOutOfBoundsException, IllegalArgumentException, IllegalStateException {
        Case lowered = caseAt(number);
        Person superior = personAt(by);
        if (days < 0 || days > lowered.days) {
            throw new IllegalArgumentException("0 to its days");
        }
        if (lowered.state != ACTED || !Person.isAbove(superior, lowered.referrer)) {
            throw new IllegalStateException("not ACTED, or that one may not");
        }
        lowered.days = days;
    }

    public int rehear(int number, int by) throws IndexOutOfBoundsException, IllegalStateException {
        Case reheard = caseAt(number);
        Person orderer = personAt(by);
        boolean mayOrder = reheard.referrer == orderer || Person.isAbove(orderer, reheard.referrer);
        if (reheard.state != ACTED || !mayOrder) {
            throw new IllegalStateException("not ACTED, or that one may not");
        }
        reheard.ceiling = reheard.days;
        reheard.clock = 0;
        reheard.chargeAgain();
        return reheard.ceiling;
    }

    // ---- what the calls share

    private Person personAt(int number) {
        if (number < 0 || number >= persons.size()) {
            throw new IndexOutOfBoundsException("no such person");
        }
        return persons.get(number);
    }

    private Case caseAt(int number) {
        if (number < 0 || number >= cases.size()) {
            throw new IndexOutOfBoundsException("no such case");
        }
        return cases.get(number);
    }

    private boolean isUnderLaw(Person person) {
        switch (person.statusAt(today)) {
            case ACTIVE:
            case LEAVE:
            case PRISONER:
                return true;
            case FOLLOWER:
                return isInField;
            default:
                return false;
        }
    }

    private boolean canBeReferred(Case referred, Person by, Court court) {
        boolean isBarred = referred.offence.isOfAll && isAway && !referred.isWaived;
        return referred.state == CHARGED && referred.isUnderPowerOf(by)
                && by.rank >= court.leastRank && !isBarred;
    }

    private static Offence offenceOf(String word) {
        for (Offence offence : OFFENCES) {
            if (offence.word.equals(word)) {
                return offence;
            }
        }
        return null;
    }

    private static int twoThirdsOf(int count) {
        return (2 * count + 2) / 3;
    }

    private static int threeFourthsOf(int count) {
        return (3 * count + 3) / 4;
    }

    private static int thirdOf(int count) {
        return (count + 2) / 3;
    }

    private enum Offence {
        ABSENCE("ABSENCE", ABSENCE_DAYS, NONE, false),
        DESERTION("DESERTION", 700, ABSENCE_DAYS, false),
        DISRESPECT("DISRESPECT", DISRESPECT_DAYS, NONE, false),
        DISOBEYING("DISOBEYING", 365, DISRESPECT_DAYS, false),
        THEFT("THEFT", 400, NONE, true),
        ASSAULT("ASSAULT", ASSAULT_DAYS, NONE, true),
        MURDER("MURDER", 999, ASSAULT_DAYS, true);

        final String word;
        final int wholeDays;
        final int lesserDays;
        final boolean isOfAll;

        Offence(String word, int wholeDays, int lesserDays, boolean isOfAll) {
            this.word = word;
            this.wholeDays = wholeDays;
            this.lesserDays = lesserDays;
            this.isOfAll = isOfAll;
        }
    }

    /** In the order of the constants SUMMARY, SPECIAL and GENERAL of the face. */
    private enum Court {
        OF_SUMMARY(4, 30, 1),
        OF_SPECIAL(6, 180, 3),
        OF_GENERAL(8, 999, 5);

        final int leastRank;
        final int cap;
        final int leastMembers;

        Court(int leastRank, int cap, int leastMembers) {
            this.leastRank = leastRank;
            this.cap = cap;
            this.leastMembers = leastMembers;
        }
    }

    private static final class StatusTold {
        final int day;
        int status;

        StatusTold(int day, int status) {
            this.day = day;
            this.status = status;
        }
    }

    private static final class Person {
        final int number;
        final int rank;
        Person commander;
        private final ArrayList<StatusTold> history;

        Person(int number, int rank) {
            this.number = number;
            this.rank = rank;
            history = new ArrayList<>();
        }

        boolean isMan() {
            return rank < LEAST_OFFICER;
        }

        int bit() {
            return 1 << number;
        }

        void tellStatus(int day, int status) {
            int count = history.size();
            if (count > 0 && history.get(count - 1).day == day) {
                history.get(count - 1).status = status;
            } else if (count < MAX_CALLS) {
                // No promised call comes to the bound; it keeps the history from growing for ever.
                history.add(new StatusTold(day, status));
            }
        }

        int statusAt(int day) {
            for (int i = history.size() - 1; i >= 0; i--) {
                StatusTold told = history.get(i);
                if (told.day <= day) {
                    return told.status;
                }
            }
            return CIVIL;
        }

        boolean hasAbove(Person other) {
            // The ranks rise along a chain, so it ends.
            for (Person above = commander; above != null; above = above.commander) {
                if (above == other) {
                    return true;
                }
            }
            return false;
        }

        /** Nobody is above the one who is not there, such as who referred a case never referred. */
        static boolean isAbove(Person superior, Person person) {
            return person != null && person.hasAbove(superior);
        }
    }

    /** A person detailed to a court, and his vote. */
    private static final class Member {
        final Person person;
        boolean hasVoted;
        int finding;
        int days;
        /** Whether the vote counted as the court closed: a later taint does not change it. */
        boolean isCounted;

        Member(Person person) {
            this.person = person;
        }
    }

    /** Who judge a case: its members with their votes, who is tainted in it, and who was challenged. */
    private static final class Bench {
        private final ArrayList<Member> members;
        // Persons by their bits: a taint and a challenge hold for those who are no members, too.
        private int tainted;
        private int challenged;

        Bench() {
            members = new ArrayList<>();
        }

        int size() {
            return members.size();
        }

        /** The member that a person is, null if he is none. */
        Member memberFor(Person person) {
            for (int i = 0; i < members.size(); i++) {
                if (members.get(i).person == person) {
                    return members.get(i);
                }
            }
            return null;
        }

        void seat(Person person) {
            members.add(new Member(person));
        }

        void unseat(Person person) {
            for (int i = members.size() - 1; i >= 0; i--) {
                if (members.get(i).person == person) {
                    members.remove(i);
                }
            }
            challenged |= person.bit();
        }

        void dissolve() {
            members.clear();
        }

        void taint(Person person) {
            tainted |= person.bit();
        }

        boolean isTainted(Person person) {
            return (tainted & person.bit()) != 0;
        }

        boolean wasChallenged(Person person) {
            return (challenged & person.bit()) != 0;
        }

        boolean isReady(int leastMembers, boolean needsMen) {
            int fit = 0;
            int men = 0;
            for (int i = 0; i < members.size(); i++) {
                Member member = members.get(i);
                if (!isTainted(member.person)) {
                    if (!member.hasVoted) {
                        return false;
                    }
                    fit++;
                    men += member.person.isMan() ? 1 : 0;
                }
            }
            return fit >= leastMembers && (!needsMen || men >= thirdOf(fit));
        }

        void settleVotes() {
            for (int i = 0; i < members.size(); i++) {
                Member member = members.get(i);
                member.isCounted = !isTainted(member.person);
            }
        }

        int countedVotes() {
            return votesForFinding(ACQUITTED);
        }

        /** How many of the counted votes are for a finding or a graver one. */
        int votesForFinding(int least) {
            int count = 0;
            for (int i = 0; i < members.size(); i++) {
                Member member = members.get(i);
                if (member.isCounted && member.finding >= least) {
                    count++;
                }
            }
            return count;
        }

        /** How many of the counted votes are for so many days or more. */
        int votesForDays(int least) {
            int count = 0;
            for (int i = 0; i < members.size(); i++) {
                Member member = members.get(i);
                if (member.isCounted && member.days >= least) {
                    count++;
                }
            }
            return count;
        }

        /** The greatest days that so many of the counted votes reach. */
        int daysReachedBy(int needed) {
            int greatest = 0;
            for (int i = 0; i < members.size(); i++) {
                Member member = members.get(i);
                if (member.isCounted && member.days > greatest && votesForDays(member.days) >= needed) {
                    greatest = member.days;
                }
            }
            return greatest;
        }
    }

    private static final class Case {
        final Person person;
        final Person accuser;
        final Offence offence;
        final Bench bench;
        int state;
        int clock;
        int credit;
        int days;
        int finding;
        int ceiling;
        int restraint;
        boolean standsStill;
        boolean isWaived;
        boolean isRefused;
        boolean isRequested;
        Person punisher;
        Person referrer;
        int cap;
        int leastMembers;

        Case(Person person, Person accuser, Offence offence) {
            this.person = person;
            this.accuser = accuser;
            this.offence = offence;
            bench = new Bench();
            state = CHARGED;
            finding = NONE;
            ceiling = NONE;
            restraint = UNRESTRAINED;
        }

        void age(int passed) {
            if (state != CHARGED && state != REFERRED) {
                return;
            }
            if (!standsStill) {
                clock += passed;
            }
            if (restraint == CLOSELY_RESTRAINED) {
                credit += passed;
            }
        }

        boolean isUnderPowerOf(Person by) {
            return person.hasAbove(by) && by != accuser;
        }

        boolean canBePunishedBy(Person by, int punishment) {
            return state == CHARGED && !isRefused && isUnderPowerOf(by)
                    && punishment <= PUNISHMENT_FOR_RANK * by.rank
                    && (ceiling == NONE || punishment <= ceiling);
        }

        void convene(Person by, Court court) {
            state = REFERRED;
            referrer = by;
            cap = court.cap;
            leastMembers = court.leastMembers;
        }

        void chargeAgain() {
            state = CHARGED;
            finding = NONE;
            days = 0;
            bench.dissolve();
        }

        boolean canSeat(Person sitter) {
            boolean isParty = sitter == person || sitter == accuser || sitter == referrer;
            return bench.size() < MAX_MEMBERS && bench.memberFor(sitter) == null && !bench.wasChallenged(sitter)
                    && !isParty && sitter.rank > person.rank && (isRequested || !sitter.isMan());
        }

        void judge() {
            bench.settleVotes();
            finding = findingByVotes();
            if (finding == ACQUITTED) {
                state = CLOSED;
            } else {
                state = TRIED;
                days = sentenceByVotes();
            }
        }

        private int findingByVotes() {
            int needed = twoThirdsOf(bench.countedVotes());
            if (bench.votesForFinding(WHOLE) >= needed) {
                return WHOLE;
            }
            if (offence.lesserDays != NONE && bench.votesForFinding(LESSER) >= needed) {
                return LESSER;
            }
            return ACQUITTED;
        }

        /** The sentence from the days of the votes alone, which sentenceByTrial finds the long way. */
        private int sentenceByVotes() {
            int most = mostDays();
            int voters = bench.countedVotes();
            int severe = Math.min(most, bench.daysReachedBy(threeFourthsOf(voters)));
            if (severe > DAYS_OF_TWO_THIRDS) {
                return severe;
            }
            int mild = Math.min(most, bench.daysReachedBy(twoThirdsOf(voters)));
            return Math.min(mild, DAYS_OF_TWO_THIRDS);
        }

        int sentenceByTrial() {
            int voters = bench.countedVotes();
            for (int tried = mostDays(); tried > 0; tried--) {
                int needed = tried > DAYS_OF_TWO_THIRDS ? threeFourthsOf(voters) : twoThirdsOf(voters);
                if (bench.votesForDays(tried) >= needed) {
                    return tried;
                }
            }
            return 0;
        }

        private int mostDays() {
            int most = Math.min(cap, finding == WHOLE ? offence.wholeDays : offence.lesserDays);
            return ceiling == NONE ? most : Math.min(most, ceiling);
        }
    }
}
