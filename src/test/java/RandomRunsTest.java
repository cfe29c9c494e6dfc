import java.util.ArrayList;
import java.util.Arrays;
import java.util.List;
import java.util.Map;
import java.util.Random;
import java.util.TreeMap;

/** Runs of 512 calls, the same ones each time, whose answers are those of the Oracle. */
public final class RandomRunsTest {
    private static final int RUNS = 3000;
    private static final int CALLS = 512;
    /** In so many runs, for it takes its time, all that the object holds is compared around a call that throws. */
    private static final int LOOKED_INTO = 150;
    private static final String[] WORDS = {
        "ABSENCE", "DESERTION", "DISRESPECT", "DISOBEYING", "THEFT", "ASSAULT", "MURDER", "MURDERS", "DESERT", ""
    };
    private static final String[] NAMES = {
        "person", "status", "statusOn", "isUnder", "command", "isInChain", "place", "pass", "pass", "type",
        "word", "charge", "charge", "caseIs", "left", "stand", "restrain", "waive", "refuse", "punish", "punish",
        "setAside", "setAside", "refer", "refer", "refer", "withdraw", "request", "bench", "bench", "bench", "bench",
        "detail", "detail", "challenge", "talk", "ballot", "ballot", "ballot", "vote", "vote", "close", "close", "close",
        "sentenceAnew", "act", "act", "act", "appeal", "appeal", "rehear", "rehear"
    };

    private final Random random;
    private final MartialHall hall = new MartialHall();
    private final Oracle oracle = new Oracle();
    private final List<String> log = new ArrayList<>();
    private final Map<String, Integer> seen;
    private final boolean isLookedInto;
    private int wrong;

    private RandomRunsTest(int seed, Map<String, Integer> seen) {
        random = new Random(seed);
        this.seen = seen;
        isLookedInto = seed <= LOOKED_INTO;
    }

    private void call(String name, int... args) {
        if (log.size() == CALLS || wrong > 0) {
            return;
        }
        String want = oracle.answer(name, args);
        boolean isCompared = isLookedInto && Caller.isException(want);
        String held = isCompared ? Snapshot.of(hall) : "";
        String got = Caller.answer(hall, name, args);
        log.add(name + " " + Arrays.toString(args) + " = " + got);
        seen.merge(name + " " + (Caller.isException(want) ? want : "answers"), 1, Integer::sum);
        if (name.equals("close") || name.equals("caseIs") && args[1] == 5) {
            seen.merge(name + " = " + want, 1, Integer::sum);
        }
        boolean isLeft = !isCompared || Snapshot.of(hall).equals(held);
        if (!want.equals(got) || !isLeft) {
            wrong++;
            System.out.println(String.join("\n", log) + "\n   due is " + want + (isLeft ? "" : ", with nothing changed"));
        }
    }

    /** Mostly one of the numbers from 0 on below a count, now and then one outside. */
    private int number(int count) {
        return random.nextInt(25) == 0 ? random.nextInt(count + 3) - 2 : random.nextInt(Math.max(count, 1));
    }

    private int aPerson() {
        return number(oracle.persons());
    }

    private int aCase() {
        return random.nextInt(4) == 0 ? number(oracle.cases()) : oracle.cases() - 1;
    }

    /** One in the chain above a person, as far up as chance will have it; now and then anybody. */
    private int superior(int person) {
        if (person < 0 || random.nextInt(6) == 0) {
            return aPerson();
        }
        int above = oracle.commander(person);
        while (above != -1 && random.nextInt(3) == 0 && oracle.commander(above) != -1) {
            above = oracle.commander(above);
        }
        return above;
    }

    private boolean isCase(int number) {
        return number >= 0 && number < oracle.cases();
    }

    private int told(int number, int what) {
        return isCase(number) ? Integer.parseInt(oracle.answer("caseIs", number, what)) : 0;
    }

    private int referrer(int number) {
        return isCase(number) ? oracle.referrer(number) : -1;
    }

    private int days(int most) {
        switch (random.nextInt(4)) {
            case 0: return random.nextInt(most + 3) - 1;
            case 1: return most;
            case 2: return Math.max(most - 1, 0);
            default: return random.nextInt(most + 1);
        }
    }

    private int voteDays() {
        int[] some = {0, 29, 30, 60, 99, 100, 101, 102, 150, 180, 200, 365, 400, 999, -1, 1000};
        return random.nextInt(3) == 0 ? random.nextInt(1000) : some[random.nextInt(random.nextInt(20) == 0 ? 16 : 14)];
    }

    private void typeWord() {
        String word = WORDS[random.nextInt(WORDS.length)];
        for (int i = 0; i < word.length(); i++) {
            call("type", word.charAt(i));
        }
    }

    /** All who can be members are detailed, in some order. */
    private void bench(int number) {
        int first = random.nextInt(12);
        int count = random.nextInt(oracle.persons() + 1);
        for (int i = 0; i < count; i++) {
            call("detail", number, (first + i) % Math.max(oracle.persons(), 1));
        }
    }

    /** The members vote, most of them alike. */
    private void ballot(int number) {
        if (!isCase(number)) {
            return;
        }
        int finding = 2 - random.nextInt(3) * random.nextInt(2);
        for (int member : oracle.members(number)) {
            if (random.nextInt(20) != 0) {
                call("vote", number, member, random.nextInt(4) == 0 ? random.nextInt(3) : finding, voteDays());
            }
        }
    }

    private void ofPersons(String name) {
        switch (name) {
            case "person": call(name, random.nextInt(12) - 1); break;
            case "status": call(name, aPerson(), random.nextInt(8) == 0 ? random.nextInt(8) - 2 : 1); break;
            case "statusOn": call(name, aPerson(), random.nextInt(oracle.today() + 3) - 1); break;
            case "isUnder": call(name, aPerson()); break;
            case "command": call(name, aPerson(), random.nextInt(12) == 0 ? -1 : aPerson()); break;
            case "isInChain": call(name, aPerson(), aPerson()); break;
            case "place": call(name, random.nextInt(2), random.nextInt(2)); break;
            case "pass": call(name, random.nextInt(8) == 0 ? random.nextInt(404) - 1 : random.nextInt(50)); break;
            case "type": call(name, 'A' + random.nextInt(28) - 1); break;
            case "word": typeWord(); break;
            case "charge":
                typeWord();
                call(name, aPerson(), aPerson());
                break;
            default: ofCase(name, aCase());
        }
    }

    private void ofCase(String name, int number) {
        int accused = told(number, 1);
        switch (name) {
            case "caseIs": call(name, number, random.nextInt(11) - 1); break;
            case "stand": call(name, number, random.nextInt(2)); break;
            case "restrain": call(name, number, random.nextInt(5) - 1); break;
            case "punish": call(name, number, superior(accused), random.nextInt(3) == 0 ? random.nextInt(102) - 1 : random.nextInt(28)); break;
            case "setAside": call(name, number, superior(accused), days(told(number, 4))); break;
            case "refer": call(name, number, superior(accused), random.nextInt(12) == 0 ? random.nextInt(5) - 1 : random.nextInt(3)); break;
            case "bench": bench(number); break;
            case "ballot": ballot(number); break;
            case "detail": case "challenge": call(name, number, aPerson()); break;
            case "talk": call(name, number, aPerson(), aPerson()); break;
            case "vote": call(name, number, aPerson(), random.nextInt(5) - 1, voteDays()); break;
            case "act": call(name, number, random.nextInt(4) == 0 ? aPerson() : referrer(number), days(told(number, 4))); break;
            case "appeal": call(name, number, superior(referrer(number)), days(told(number, 4))); break;
            case "rehear": call(name, number, random.nextInt(2) == 0 ? referrer(number) : superior(referrer(number))); break;
            default: call(name, number);
        }
    }

    /** Four officers at least, and who is first to be charged is often a man. */
    private void people() {
        int people = random.nextInt(8) == 0 ? random.nextInt(13) : 9 + random.nextInt(4);
        for (int i = 0; i < people; i++) {
            call("person", i < 2 ? random.nextInt(5) : random.nextInt(3) == 0 ? random.nextInt(10) : 4 + random.nextInt(6));
        }
        for (int i = 0; i < people; i++) {
            call("status", i, 1);
            for (int tries = 0; tries < 3; tries++) {
                int by = random.nextInt(people);
                if (oracle.rank(by) > oracle.rank(i)) {
                    call("command", i, by);
                }
            }
        }
    }

    private void newCase() {
        call("charge", random.nextInt(Math.max(oracle.persons(), 1)), aPerson());
        typeWord();
        call("charge", random.nextInt(3), aPerson());
    }

    /** What would come next in the case's life. */
    private void next(int number) {
        switch (told(number, 0)) {
            case MartialHall.CHARGED:
                ofCase(random.nextInt(8) == 0 ? "punish" : random.nextInt(12) == 0 ? "request" : "refer", number);
                break;
            case MartialHall.REFERRED:
                bench(number);
                if (random.nextInt(4) == 0) {
                    ofCase(random.nextInt(2) == 0 ? "challenge" : "talk", number);
                }
                ballot(number);
                ofCase("close", number);
                break;
            case MartialHall.TRIED: ofCase("act", number); break;
            case MartialHall.ACTED: ofCase(random.nextInt(2) == 0 ? "appeal" : "rehear", number); break;
            case MartialHall.PUNISHED: ofCase("setAside", number); break;
            default: break;
        }
    }

    private void run() {
        people();
        while (log.size() < CALLS && wrong == 0) {
            int drawn = random.nextInt(10);
            if (drawn < 3 || oracle.persons() == 0) {
                ofPersons(NAMES[random.nextInt(NAMES.length)]);
            } else if (drawn == 3 || oracle.cases() == 0) {
                newCase();
            } else {
                next(random.nextInt(oracle.cases()));
            }
            // Asks what may have changed, and keeps the loop going forward where nothing was called.
            call("caseIs", aCase(), random.nextInt(9));
        }
    }

    /** The runs must have come to each call's answer and each of its exceptions, or they tell little. */
    private static int unseen(Map<String, Integer> seen) {
        String[] due = {
            "person IAE ISE", "status IOOBE IAE", "statusOn IOOBE IAE", "isUnder IOOBE", "command IOOBE IAE",
            "isInChain IOOBE", "place", "pass IAE", "type IAE ISE", "charge IOOBE IAE ISE", "caseIs IOOBE IAE",
            "left IOOBE", "stand IOOBE", "restrain IOOBE IAE", "waive IOOBE", "refuse IOOBE ISE",
            "punish IOOBE IAE ISE", "setAside IOOBE IAE ISE", "refer IOOBE IAE ISE", "withdraw IOOBE ISE",
            "request IOOBE ISE", "detail IOOBE ISE", "challenge IOOBE ISE", "talk IOOBE", "vote IOOBE IAE ISE",
            "close IOOBE ISE", "sentenceAnew IOOBE", "act IOOBE IAE ISE", "appeal IOOBE IAE ISE", "rehear IOOBE ISE"
        };
        int missing = 0;
        for (String line : due) {
            String[] parts = line.split(" ");
            missing += isSeldom(seen, parts[0] + " answers") ? 1 : 0;
            for (int i = 1; i < parts.length; i++) {
                missing += isSeldom(seen, parts[0] + " " + parts[i]) ? 1 : 0;
            }
        }
        for (String closed : new String[] {"close = -1", "close = 3", "close = 5", "caseIs = 0", "caseIs = 1", "caseIs = 2"}) {
            missing += isSeldom(seen, closed) ? 1 : 0;
        }
        return missing;
    }

    private static boolean isSeldom(Map<String, Integer> seen, String what) {
        int times = seen.getOrDefault(what, 0);
        if (times < 10) {
            System.out.println("too seldom in the runs: " + what + ", " + times + " times");
        }
        return times < 10;
    }

    public static void main(String[] args) {
        Map<String, Integer> seen = new TreeMap<>();
        int wrong = 0;
        for (int seed = 1; seed <= RUNS && wrong == 0; seed++) {
            RandomRunsTest runs = new RandomRunsTest(seed, seen);
            runs.run();
            wrong += runs.wrong;
        }
        wrong += unseen(seen);
        System.out.println(RUNS + " runs of " + CALLS + " calls, " + wrong + " wrong");
        System.exit(wrong == 0 ? 0 : 1);
    }
}
