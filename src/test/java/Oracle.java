import java.util.ArrayList;
import java.util.HashMap;
import java.util.HashSet;
import java.util.LinkedHashMap;
import java.util.List;
import java.util.Map;
import java.util.Set;
import java.util.TreeMap;

/** A second reading of the document, written with the Java library and without regard to LANGUAGE.md. */
final class Oracle {
    private static final String IOOBE = "IOOBE", IAE = "IAE", ISE = "ISE";
    private static final Map<String, int[]> OFFENCES = new HashMap<>();

    static {
        // The greatest days, those of the lesser one, and 1 if it is of all.
        OFFENCES.put("ABSENCE", new int[] {60, -1, 0});
        OFFENCES.put("DESERTION", new int[] {700, 60, 0});
        OFFENCES.put("DISRESPECT", new int[] {180, -1, 0});
        OFFENCES.put("DISOBEYING", new int[] {365, 180, 0});
        OFFENCES.put("THEFT", new int[] {400, -1, 1});
        OFFENCES.put("ASSAULT", new int[] {200, -1, 1});
        OFFENCES.put("MURDER", new int[] {999, 200, 1});
    }

    private static final class Trial {
        int person, accuser, state, clock, credit, days, finding = -1, ceiling = -1, restraint, referrer = -1, punisher = -1;
        int court, anew = -1;
        int[] offence;
        boolean still, waived, refused, requested;
        /** The members and their votes, an empty one before they vote. */
        final Map<Integer, int[]> votes = new LinkedHashMap<>();
        final Set<Integer> tainted = new HashSet<>(), challenged = new HashSet<>();

        boolean isOneOf(int... states) {
            for (int one : states) {
                if (one == state) {
                    return true;
                }
            }
            return false;
        }
    }

    private final List<Integer> ranks = new ArrayList<>();
    private final List<TreeMap<Integer, Integer>> statuses = new ArrayList<>();
    private final Map<Integer, Integer> commanders = new HashMap<>();
    private final List<Trial> trials = new ArrayList<>();
    private String word = "";
    private int today;
    private boolean field, abroad;

    int today() {
        return today;
    }

    int persons() {
        return ranks.size();
    }

    int cases() {
        return trials.size();
    }

    int rank(int person) {
        return ranks.get(person);
    }

    int commander(int person) {
        return commanders.getOrDefault(person, -1);
    }

    int accuser(int number) {
        return trials.get(number).accuser;
    }

    int referrer(int number) {
        return trials.get(number).referrer;
    }

    int[] members(int number) {
        return trials.get(number).votes.keySet().stream().mapToInt(Integer::intValue).toArray();
    }

    private boolean noPerson(int person) {
        return person < 0 || person >= ranks.size();
    }

    private boolean noCase(int number) {
        return number < 0 || number >= trials.size();
    }

    private static boolean outside(int value, int from, int to) {
        return value < from || value > to;
    }

    private boolean chain(int person, int by) {
        int above = commander(person);
        return above != -1 && (above == by || chain(above, by));
    }

    private int statusAt(int person, int day) {
        Map.Entry<Integer, Integer> told = statuses.get(person).floorEntry(day);
        return told == null ? 0 : told.getValue();
    }

    private boolean under(int person) {
        int status = statusAt(person, today);
        return status == 1 || status == 2 || status == 3 || (status == 4 && field);
    }

    /** The rounded up share of a count. */
    private static int share(int count, int over, int under) {
        return (int) Math.ceil((double) (count * over) / under);
    }

    String answer(String name, int... a) {
        switch (name) {
            case "person": return person(a[0]);
            case "status": return status(a[0], a[1]);
            case "statusOn":
                return noPerson(a[0]) ? IOOBE : outside(a[1], 0, today) ? IAE : "" + statusAt(a[0], a[1]);
            case "isUnder": return noPerson(a[0]) ? IOOBE : "" + under(a[0]);
            case "command": return command(a[0], a[1]);
            case "isInChain": return noPerson(a[0]) || noPerson(a[1]) ? IOOBE : "" + chain(a[0], a[1]);
            case "place":
                field = a[0] != 0;
                abroad = a[1] != 0;
                return Caller.DONE;
            case "pass": return pass(a[0]);
            case "type": return type((char) a[0]);
            case "charge": return charge(a[0], a[1]);
            default: return noCase(a[0]) ? IOOBE : ofCase(name, trials.get(a[0]), a);
        }
    }

    private String person(int rank) {
        if (outside(rank, 0, 9)) {
            return IAE;
        }
        if (ranks.size() == 12) {
            return ISE;
        }
        ranks.add(rank);
        statuses.add(new TreeMap<>());
        return "" + (ranks.size() - 1);
    }

    private String status(int person, int status) {
        if (noPerson(person)) {
            return IOOBE;
        }
        if (outside(status, 0, 4)) {
            return IAE;
        }
        statuses.get(person).put(today, status);
        return Caller.DONE;
    }

    private String command(int person, int by) {
        if (noPerson(person) || (by != -1 && noPerson(by))) {
            return IOOBE;
        }
        if (by != -1 && rank(by) <= rank(person)) {
            return IAE;
        }
        commanders.put(person, by);
        return Caller.DONE;
    }

    private String pass(int days) {
        if (outside(days, 1, 400)) {
            return IAE;
        }
        for (int day = 0; day < days; day++) {
            today++;
            for (Trial trial : trials) {
                if (trial.isOneOf(MartialHall.CHARGED, MartialHall.REFERRED)) {
                    trial.clock += trial.still ? 0 : 1;
                    trial.credit += trial.restraint == 2 ? 1 : 0;
                }
            }
        }
        return "" + today;
    }

    private String type(char letter) {
        if ("ABCDEFGHIJKLMNOPQRSTUVWXYZ".indexOf(letter) < 0) {
            return IAE;
        }
        if (word.length() == 12) {
            return ISE;
        }
        word += letter;
        return "" + word.length();
    }

    private String charge(int person, int by) {
        if (noPerson(person) || noPerson(by)) {
            return IOOBE;
        }
        if (person == by) {
            return IAE;
        }
        if (!under(person) || trials.size() == 20) {
            return ISE;
        }
        int[] offence = OFFENCES.get(word);
        word = "";
        if (offence == null) {
            return "-1";
        }
        Trial trial = new Trial();
        trial.person = person;
        trial.accuser = by;
        trial.offence = offence;
        trials.add(trial);
        return "" + (trials.size() - 1);
    }

    private String ofCase(String name, Trial t, int[] a) {
        switch (name) {
            case "caseIs": return outside(a[1], 0, 8) ? IAE : "" + told(t)[a[1]];
            case "left": return "" + (t.isOneOf(MartialHall.PUNISHED, MartialHall.ACTED) ? Math.max(0, t.days - t.credit) : 0);
            case "stand":
                boolean stood = t.still;
                t.still = a[1] != 0;
                return "" + stood;
            case "restrain":
                if (outside(a[1], 0, 2)) {
                    return IAE;
                }
                int before = t.restraint;
                t.restraint = a[1];
                return "" + before;
            case "waive":
                t.waived = true;
                return Caller.DONE;
            case "refuse":
                if (t.state != MartialHall.CHARGED || field) {
                    return ISE;
                }
                t.refused = true;
                return Caller.DONE;
            case "withdraw":
                if (t.state != MartialHall.REFERRED) {
                    return ISE;
                }
                t.state = MartialHall.CHARGED;
                t.votes.clear();
                return Caller.DONE;
            case "request":
                if (rank(t.person) >= 4 || t.state == MartialHall.CLOSED) {
                    return ISE;
                }
                t.requested = true;
                return Caller.DONE;
            case "close": return t.state != MartialHall.REFERRED ? ISE : close(t);
            case "sentenceAnew": return "" + (t.isOneOf(MartialHall.TRIED, MartialHall.ACTED) ? t.anew : -1);
            default: return noPerson(a[1]) ? IOOBE : byPerson(name, t, a);
        }
    }

    private static int[] told(Trial t) {
        return new int[] {t.state, t.person, t.clock, t.credit, t.days, t.finding, t.ceiling, t.offence[0], t.offence[1]};
    }

    private String byPerson(String name, Trial t, int[] a) {
        int by = a[1];
        switch (name) {
            case "punish": return punish(t, by, a[2]);
            case "setAside": return setAside(t, by, a[2]);
            case "refer": return refer(t, by, a[2]);
            case "detail": return detail(t, by);
            case "challenge":
                if (t.state != MartialHall.REFERRED || !t.votes.containsKey(by)) {
                    return ISE;
                }
                t.votes.remove(by);
                t.challenged.add(by);
                return "" + t.votes.size();
            case "talk":
                if (noPerson(a[2])) {
                    return IOOBE;
                }
                if (rank(by) > rank(a[2])) {
                    t.tainted.add(a[2]);
                }
                return "" + t.tainted.contains(a[2]);
            case "vote":
                if (outside(a[2], 0, 2) || outside(a[3], 0, 999)) {
                    return IAE;
                }
                if (t.state != MartialHall.REFERRED || !t.votes.containsKey(by)) {
                    return ISE;
                }
                t.votes.put(by, new int[] {a[2], a[3]});
                return Caller.DONE;
            case "act": return act(t, by, a[2]);
            case "appeal": return appeal(t, by, a[2]);
            case "rehear": return rehear(t, by);
            default: throw new UnsupportedOperationException("no such call: " + name);
        }
    }

    private String punish(Trial t, int by, int days) {
        if (outside(days, 1, 99)) {
            return IAE;
        }
        boolean may = chain(t.person, by) && t.accuser != by && !t.refused && t.state == MartialHall.CHARGED;
        if (!may || days > 3 * rank(by) || (t.ceiling != -1 && days > t.ceiling)) {
            return ISE;
        }
        t.state = MartialHall.PUNISHED;
        t.punisher = by;
        t.days = days;
        return Caller.DONE;
    }

    private String setAside(Trial t, int by, int days) {
        if (days < 0 || (days > 0 && days >= t.days)) {
            return IAE;
        }
        if (t.state != MartialHall.PUNISHED || !chain(t.punisher, by)) {
            return ISE;
        }
        t.days = days;
        t.state = days == 0 ? MartialHall.CLOSED : t.state;
        return Caller.DONE;
    }

    private String refer(Trial t, int by, int court) {
        if (outside(court, 0, 2)) {
            return IAE;
        }
        boolean may = chain(t.person, by) && t.accuser != by && rank(by) >= 4 + 2 * court && t.state == MartialHall.CHARGED;
        if (!may || (t.offence[2] == 1 && abroad && !t.waived)) {
            return ISE;
        }
        if (t.clock > 120) {
            t.state = MartialHall.CLOSED;
            return "5";
        }
        t.state = MartialHall.REFERRED;
        t.referrer = by;
        t.court = court;
        return "2";
    }

    private String detail(Trial t, int member) {
        if (t.state != MartialHall.REFERRED || t.votes.size() == 9 || t.votes.containsKey(member)) {
            return ISE;
        }
        if (member == t.person || member == t.accuser || member == t.referrer || t.challenged.contains(member)) {
            return ISE;
        }
        if (rank(member) <= rank(t.person) || (rank(member) < 4 && !t.requested)) {
            return ISE;
        }
        t.votes.put(member, new int[0]);
        return "" + t.votes.size();
    }

    private String close(Trial t) {
        List<int[]> counted = new ArrayList<>();
        int men = 0;
        for (Map.Entry<Integer, int[]> vote : t.votes.entrySet()) {
            if (!t.tainted.contains(vote.getKey())) {
                counted.add(vote.getValue());
                men += rank(vote.getKey()) < 4 ? 1 : 0;
            }
        }
        int n = counted.size();
        boolean allVoted = counted.stream().allMatch(vote -> vote.length == 2);
        if (n < new int[] {1, 3, 5}[t.court] || !allVoted || (t.requested && men < share(n, 1, 3))) {
            return "-1";
        }
        long whole = counted.stream().filter(vote -> vote[0] == 2).count();
        long some = counted.stream().filter(vote -> vote[0] != 0).count();
        if (whole >= share(n, 2, 3)) {
            t.finding = 2;
        } else {
            t.finding = t.offence[1] != -1 && some >= share(n, 2, 3) ? 1 : 0;
        }
        if (t.finding == 0) {
            t.state = MartialHall.CLOSED;
            return "5";
        }
        t.state = MartialHall.TRIED;
        t.days = sentence(t, counted);
        t.anew = t.days;
        return "3";
    }

    private static int sentence(Trial t, List<int[]> counted) {
        int most = Math.min(t.offence[2 - t.finding], new int[] {30, 180, 999}[t.court]);
        if (t.ceiling != -1) {
            most = Math.min(most, t.ceiling);
        }
        int found = 0;
        for (int days = 0; days <= most; days++) {
            int least = days;
            long voters = counted.stream().filter(vote -> vote[1] >= least).count();
            int n = counted.size();
            if (voters >= (days > 100 ? share(n, 3, 4) : share(n, 2, 3))) {
                found = days;
            }
        }
        return found;
    }

    private String act(Trial t, int by, int days) {
        if (outside(days, 0, t.days)) {
            return IAE;
        }
        if (t.state != MartialHall.TRIED || by != t.referrer) {
            return ISE;
        }
        t.state = MartialHall.ACTED;
        t.days = days;
        return Caller.DONE;
    }

    private String appeal(Trial t, int by, int days) {
        if (outside(days, 0, t.days)) {
            return IAE;
        }
        if (t.state != MartialHall.ACTED || !chain(t.referrer, by)) {
            return ISE;
        }
        t.days = days;
        return Caller.DONE;
    }

    private String rehear(Trial t, int by) {
        if (t.state != MartialHall.ACTED || (by != t.referrer && !chain(t.referrer, by))) {
            return ISE;
        }
        t.ceiling = t.days;
        t.state = MartialHall.CHARGED;
        t.clock = 0;
        t.votes.clear();
        t.days = 0;
        t.finding = -1;
        return "" + t.ceiling;
    }
}
