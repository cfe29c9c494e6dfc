/** Each refused call: which exception it throws, and which of several; and what a call answers by the case's state. */
public final class RefusalsTest {
    /** The numbers that are no person of 12, and no case of one. */
    private static final String[] NO_PERSON = {"MIN", "-1", "12", "MAX"};
    private static final String[] NO_CASE = {"MIN", "-1", "1", "MAX"};

    /** Each call on persons and cases: P a person, Q a commander or none, C a case; the others out of their ranges. */
    private static final String[] CALLS = {
        "status P 5", "status P 1", "statusOn P 99", "statusOn P 0", "isUnder P", "command P Q", "isInChain P P", "charge P P",
        "caseIs C 9", "caseIs C 0", "left C", "stand C 1", "restrain C 3", "restrain C 0", "waive C", "refuse C",
        "punish C P 0", "punish C P 1", "setAside C P -1", "setAside C P 0", "refer C P 3", "refer C P 0", "withdraw C",
        "request C", "detail C P", "challenge C P", "talk C P P", "vote C P 3 0", "vote C P 0 1000", "vote C P 0 0",
        "close C", "sentenceAnew C", "act C P 1", "act C P 0", "appeal C P -1", "appeal C P 0", "rehear C P",
    };

    private static void indices() {
        StringBuilder none = new StringBuilder();
        StringBuilder wrong = new StringBuilder();
        for (String call : CALLS) {
            String[] words = call.split(" ");
            for (int at = 1; at < words.length; at++) {
                boolean isPerson = words[at].equals("P") || words[at].equals("Q");
                if (isPerson || words[at].equals("C")) {
                    none.append(call.replaceAll("\\b[PQC]\\b", "0")).append(" = IOOBE\n");
                    for (String number : isPerson ? NO_PERSON : NO_CASE) {
                        boolean isNone = words[at].equals("Q") && number.equals("-1");
                        wrong.append(with(words, at, number)).append(isNone ? " = done\n" : " = IOOBE\n");
                    }
                }
            }
        }
        Script.run("there is no such person or case, of none", none.toString());
        Script.run("there is no such person or case, of 12 and one", Army.charged("THEFT"), wrong.toString());
        Script.run("no such case, of 20", Army.ARMY, "word THEFT\ncharge 0 11\n".repeat(20),
            "caseIs 19 1 = 0\ncaseIs 20 1 = IOOBE\nleft 19 = 0\nleft 20 = IOOBE\nwaive 20 = IOOBE\nclose 19 = ISE\nclose 20 = IOOBE\n");
        Script.run("both are wrong: the case and the person", Army.charged("THEFT"), """
            punish 1 12 0 = IOOBE
            setAside 1 12 -1 = IOOBE
            refer 1 12 3 = IOOBE
            detail 1 12 = IOOBE
            challenge 1 12 = IOOBE
            talk 1 12 12 = IOOBE
            vote 1 12 3 1000 = IOOBE
            act 1 12 -1 = IOOBE
            appeal 1 12 -1 = IOOBE
            rehear 1 12 = IOOBE
            charge 12 12 = IOOBE
            command 12 12 = IOOBE
            """);
    }

    private static String with(String[] words, int at, String number) {
        StringBuilder call = new StringBuilder(words[0]);
        for (int i = 1; i < words.length; i++) {
            call.append(' ').append(i == at ? number : words[i].replaceAll("\\b[PQC]\\b", "0"));
        }
        return call.toString();
    }

    /** The case in each state, referred by 1 if it was; the members 4 to 6 vote the whole and 50 days. */
    private static String[] states() {
        String charged = Army.charged("DESERTION");
        String referred = charged + "refer 0 1 1 = 2\n" + """
            detail 0 4
            detail 0 5
            detail 0 6
            vote 0 4 2 50
            vote 0 5 2 50
            vote 0 6 2 50
            """;
        String tried = referred + "close 0 = 3\n";
        return new String[] {charged, charged + "punish 0 1 10\n", referred, tried, tried + "act 0 1 40\n",
            charged + "punish 0 1 10\nsetAside 0 2 0\n"};
    }

    /** What a call answers on a case that is CHARGED, PUNISHED, REFERRED, TRIED, ACTED and CLOSED. */
    private static void byState(String call, String... due) {
        String[] states = states();
        for (int state = 0; state < states.length; state++) {
            Script.run(call + ", of a case that is " + state, states[state], "caseIs 0 0 = " + state, call + " = " + due[state]);
        }
    }

    private static void statesOfCharges() {
        byState("caseIs 0 4", "0", "10", "0", "50", "40", "0");
        byState("caseIs 0 5", "-1", "-1", "-1", "2", "2", "-1");
        byState("caseIs 0 6", "-1", "-1", "-1", "-1", "-1", "-1");
        byState("left 0", "0", "10", "0", "0", "40", "0");
        byState("stand 0 1", "false", "false", "false", "false", "false", "false");
        byState("restrain 0 2", "0", "0", "0", "0", "0", "0");
        byState("restrain 0 3", "IAE", "IAE", "IAE", "IAE", "IAE", "IAE");
        byState("waive 0", "done", "done", "done", "done", "done", "done");
        byState("refuse 0", "done", "ISE", "ISE", "ISE", "ISE", "ISE");
        byState("request 0", "done", "done", "done", "done", "done", "ISE");
        byState("talk 0 5 4", "true", "true", "true", "true", "true", "true");
        byState("punish 0 1 5", "done", "ISE", "ISE", "ISE", "ISE", "ISE");
        byState("punish 0 1 100", "IAE", "IAE", "IAE", "IAE", "IAE", "IAE");
        byState("setAside 0 2 0", "ISE", "done", "ISE", "ISE", "ISE", "ISE");
        byState("setAside 0 2 9", "IAE", "done", "IAE", "ISE", "ISE", "IAE");
        byState("setAside 0 2 10", "IAE", "IAE", "IAE", "ISE", "ISE", "IAE");
        byState("setAside 0 2 50", "IAE", "IAE", "IAE", "IAE", "IAE", "IAE");
        byState("setAside 0 2 -1", "IAE", "IAE", "IAE", "IAE", "IAE", "IAE");
    }

    private static void statesOfCourts() {
        byState("refer 0 1 1", "2", "ISE", "ISE", "ISE", "ISE", "ISE");
        byState("refer 0 1 3", "IAE", "IAE", "IAE", "IAE", "IAE", "IAE");
        byState("withdraw 0", "ISE", "ISE", "done", "ISE", "ISE", "ISE");
        byState("detail 0 7", "ISE", "ISE", "4", "ISE", "ISE", "ISE");
        byState("challenge 0 4", "ISE", "ISE", "2", "ISE", "ISE", "ISE");
        byState("challenge 0 7", "ISE", "ISE", "ISE", "ISE", "ISE", "ISE");
        byState("vote 0 4 2 10", "ISE", "ISE", "done", "ISE", "ISE", "ISE");
        byState("vote 0 7 2 10", "ISE", "ISE", "ISE", "ISE", "ISE", "ISE");
        byState("vote 0 4 3 10", "IAE", "IAE", "IAE", "IAE", "IAE", "IAE");
        byState("vote 0 7 2 1000", "IAE", "IAE", "IAE", "IAE", "IAE", "IAE");
        byState("close 0", "ISE", "ISE", "3", "ISE", "ISE", "ISE");
        byState("sentenceAnew 0", "-1", "-1", "-1", "50", "50", "-1");
        byState("act 0 1 0", "ISE", "ISE", "ISE", "done", "ISE", "ISE");
        byState("act 0 1 10", "IAE", "ISE", "IAE", "done", "ISE", "IAE");
        byState("act 0 2 50", "IAE", "IAE", "IAE", "ISE", "IAE", "IAE");
        byState("appeal 0 2 0", "ISE", "ISE", "ISE", "ISE", "done", "ISE");
        byState("appeal 0 2 40", "IAE", "IAE", "IAE", "ISE", "done", "IAE");
        byState("appeal 0 1 41", "IAE", "IAE", "IAE", "ISE", "IAE", "IAE");
        byState("rehear 0 1", "ISE", "ISE", "ISE", "ISE", "40", "ISE");
        byState("rehear 0 3", "ISE", "ISE", "ISE", "ISE", "40", "ISE");
        byState("rehear 0 0", "ISE", "ISE", "ISE", "ISE", "ISE", "ISE");
    }

    private static void several() {
        Script.run("of several it is the first one: person and command", "person 3\n".repeat(12), """
            person 10 = IAE
            person 9 = ISE
            status 12 9 = IOOBE
            statusOn 12 9 = IOOBE
            command 12 0 = IOOBE
            command 0 12 = IOOBE
            command 0 0 = IAE
            """);
        Script.run("of several it is the first one: type and charge", Army.ARMY, "word DISOBEYINGSS\n", """
            type a = IAE
            type A = ISE
            charge 12 12 = IOOBE
            charge -1 0 = IOOBE
            charge 1 1 = IAE
            charge 1 0 = ISE
            """);
        Script.run("of several it is the first one: PUNISHED, by one who may not", Army.charged("THEFT"), """
            punish 0 4 100 = IAE
            punish 0 4 1 = ISE
            punish 0 1 10
            setAside 0 4 10 = IAE
            setAside 0 4 9 = ISE
            refer 0 4 3 = IAE
            refer 0 4 0 = ISE
            """);
        Script.run("of several it is the first one: the case is CLOSED, the person an officer", """
            person 4 = 0
            person 9 = 1
            person 3 = 2
            status 0 1
            command 0 1
            word THEFT
            charge 0 2 = 0
            request 0 = ISE
            pass 121 = 121
            refer 0 1 0 = 5
            request 0 = ISE
            request 1 = IOOBE
            """);
        Script.run("a refused vote leaves the vote", Army.voted("THEFT", 0, 20), """
            vote 0 4 0 1000 = IAE
            vote 0 4 3 5 = IAE
            vote 0 5 0 5 = ISE
            close 0 = 3
            caseIs 0 4 = 20
            """);
        Script.run("a refused detail, challenge and withdraw leave the members", Army.voted("THEFT", 1, 20, 20, 20), """
            detail 0 4 = ISE
            detail 0 0 = ISE
            challenge 0 7 = ISE
            detail 0 7 = 4
            challenge 0 7 = 3
            detail 0 7 = ISE
            close 0 = 3
            withdraw 0 = ISE
            caseIs 0 0 = 3
            """);
    }

    public static void main(String[] args) {
        indices();
        statesOfCharges();
        statesOfCourts();
        several();
        Script.end();
    }
}
