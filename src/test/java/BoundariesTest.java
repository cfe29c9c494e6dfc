/** Each sentence of the document that names a boundary, of persons, days, words, charges and minor punishment. */
public final class BoundariesTest {
    private static void persons() {
        Script.run("Days are numbered from 0", """
            person 5 = 0
            statusOn 0 0 = 0
            statusOn 0 1 = IAE
            pass 1 = 1
            statusOn 0 1 = 0
            statusOn 0 2 = IAE
            """);
        Script.run("Persons are numbered from 0, none", """
            isUnder 0 = IOOBE
            isInChain 0 0 = IOOBE
            command 0 -1 = IOOBE
            charge 0 0 = IOOBE
            pass 400 = 400
            place 1 1 = done
            """);
        Script.run("Persons, at most 12", """
            person 0 = 0
            person 0 = 1
            person 0 = 2
            person 0 = 3
            person 0 = 4
            person 0 = 5
            person 0 = 6
            person 0 = 7
            person 0 = 8
            person 0 = 9
            isUnder 10 = IOOBE
            person 0 = 10
            isUnder 11 = IOOBE
            person 0 = 11
            person 0 = ISE
            person 9 = ISE
            isUnder 11 = false
            isUnder 12 = IOOBE
            """);
        Script.run("each of a rank, 0 to 9", """
            person MIN = IAE
            person -1 = IAE
            person 0 = 0
            person 9 = 1
            person 10 = IAE
            person MAX = IAE
            person 4 = 2
            """);
        Script.run("12 persons and a rank out of its range", "person 1\n".repeat(12), """
            person -1 = IAE
            person 10 = IAE
            person MIN = IAE
            person MAX = IAE
            person 1 = ISE
            """);
        Script.run("below 4 a man, otherwise an officer", """
            person 3 = 0
            person 4 = 1
            person 9 = 2
            person 0 = 3
            status 0 1
            status 1 1
            word THEFT
            charge 0 2 = 0
            word THEFT
            charge 1 2 = 1
            request 0 = done
            request 1 = ISE
            """);
    }

    private static void statuses() {
        Script.run("A person has a status, CIVIL as at first", "person 1 = 0\nstatusOn 0 0 = 0\npass 9 = 9\nstatusOn 0 9 = 0\n");
        Script.run("a status is CIVIL to FOLLOWER", """
            person 1 = 0
            status 0 MIN = IAE
            status 0 -1 = IAE
            status 0 0 = done
            status 0 1 = done
            status 0 2 = done
            status 0 3 = done
            status 0 4 = done
            statusOn 0 0 = 4
            status 0 5 = IAE
            status 0 MAX = IAE
            statusOn 0 0 = 4
            """);
        Script.run("told from today on", """
            person 1 = 0
            pass 3 = 3
            status 0 1 = done
            statusOn 0 2 = 0
            statusOn 0 3 = 1
            pass 1 = 4
            statusOn 0 4 = 1
            pass 400 = 404
            statusOn 0 404 = 1
            status 0 3 = done
            statusOn 0 403 = 1
            statusOn 0 404 = 3
            """);
        Script.run("in place of one told today", """
            person 1 = 0
            pass 2 = 2
            status 0 3
            pass 1 = 3
            status 0 1
            status 0 2
            status 0 0
            statusOn 0 1 = 0
            statusOn 0 2 = 3
            statusOn 0 3 = 0
            pass 1 = 4
            statusOn 0 3 = 0
            statusOn 0 4 = 0
            """);
        Script.run("a status of one person is not another's", """
            person 1 = 0
            person 1 = 1
            status 0 1
            pass 1 = 1
            status 1 2
            statusOn 0 1 = 1
            statusOn 1 0 = 0
            isUnder 1 = true
            """);
        Script.run("the day is 0 to today", """
            person 1 = 0
            pass 400 = 400
            status 0 1
            statusOn 0 MIN = IAE
            statusOn 0 -1 = IAE
            statusOn 0 0 = 0
            statusOn 0 399 = 0
            statusOn 0 400 = 1
            statusOn 0 401 = IAE
            statusOn 0 MAX = IAE
            """);
        for (int status = 0; status <= 4; status++) {
            boolean isAlways = status >= 1 && status <= 3;
            Script.run("Under the law, of status " + status, "person 1 = 0", "status 0 " + status,
                "isUnder 0 = " + isAlways, "place 1 0", "isUnder 0 = " + (isAlways || status == 4),
                "place 1 1", "isUnder 0 = " + (isAlways || status == 4), "place 0 1", "isUnder 0 = " + isAlways);
        }
        Script.run("The army is in the field or not, not at first", Army.charged("THEFT"), "status 11 4\nisUnder 11 = false\nrefuse 0 = done\n");
        Script.run("and abroad or not, not at first", Army.charged("THEFT"), "refer 0 3 0 = 2\n");
    }

    private static void commanders() {
        Script.run("a commander, of a rank above his own", """
            person 8 = 0
            person 8 = 1
            person 9 = 2
            person 7 = 3
            person 9 = 4
            command 0 0 = IAE
            command 0 1 = IAE
            command 0 3 = IAE
            command 0 2 = done
            isInChain 0 2 = true
            command 0 1 = IAE
            isInChain 0 2 = true
            command 0 4 = done
            isInChain 0 2 = false
            command 2 4 = IAE
            """);
        Script.run("A person can have a commander, NONE for none", """
            person 1 = 0
            person 2 = 1
            command 0 -1 = done
            command 0 1 = done
            command 0 -2 = IOOBE
            command 0 2 = IOOBE
            command 0 MIN = IOOBE
            command 0 MAX = IOOBE
            isInChain 0 1 = true
            command 0 -1 = done
            isInChain 0 1 = false
            command 2 -1 = IOOBE
            """);
        StringBuilder chain = new StringBuilder();
        for (int rank = 0; rank <= 9; rank++) {
            chain.append("person ").append(rank).append(" = ").append(rank).append('\n');
        }
        for (int rank = 0; rank < 9; rank++) {
            chain.append("command ").append(rank).append(' ').append(rank + 1).append('\n');
        }
        for (int person = 0; person <= 9; person++) {
            for (int by = 0; by <= 9; by++) {
                chain.append("isInChain ").append(person).append(' ').append(by).append(" = ").append(by > person).append('\n');
            }
        }
        Script.run("his commander, that one's, and so on, through all ranks", chain.toString(), """
            command 4 -1
            isInChain 0 4 = true
            isInChain 0 5 = false
            isInChain 4 9 = false
            isInChain 5 9 = true
            """);
    }

    private static void days() {
        Script.run("1 to 400 days pass", """
            pass MIN = IAE
            pass -1 = IAE
            pass 0 = IAE
            pass 1 = 1
            pass 400 = 401
            pass 401 = IAE
            pass MAX = IAE
            pass 399 = 800
            """);
        Script.run("512 calls of pass", "pass 400\n".repeat(511), "pass 400 = 204800\n");
        StringBuilder each = new StringBuilder("person 1 = 0\n");
        for (int day = 1; day <= 170; day++) {
            each.append("status 0 ").append(day % 5).append("\nstatusOn 0 ").append(day / 2).append(" = ")
                .append(day / 2 == day - 1 ? day % 5 : (day / 2 + 1) % 5).append("\npass 1 = ").append(day).append('\n');
        }
        Script.run("512 calls, a status on each day", each.toString(), "isUnder 0 = false");
    }

    private static void words() {
        Script.run("letters are A to Z", """
            type @ = IAE
            type A = 1
            type Z = 2
            type [ = IAE
            type a = IAE
            type z = IAE
            type 0 = IAE
            type 48 = IAE
            type 321 = IAE
            type 65535 = IAE
            """);
        Script.run("A word, at most 12 letters", """
            word DISOBEYING
            type S = 11
            type S = 12
            type S = ISE
            type a = IAE
            type @ = IAE
            type Z = ISE
            """);
        Script.run("a full word is no offence, and empty then", Army.ARMY, "word ABSENCEABSEN\ntype T = ISE\n", """
            charge 0 11 = -1
            type A = 1
            """);
        Script.run("an empty word is no offence", Army.ARMY, """
            charge 0 11 = -1
            caseIs 0 0 = IOOBE
            type A = 1
            """);
        Script.run("the word is empty once an offence was charged", Army.charged("DISOBEYING"), "type A = 1\n");
        Script.run("a refused charge leaves the word", Army.ARMY, """
            word THEF
            charge 0 12 = IOOBE
            charge 0 0 = IAE
            charge 1 0 = ISE
            type T = 5
            charge 1 0 = ISE
            charge 0 1 = 0
            """);
        for (String word : new String[] {"ABSENC", "ABSENCES", "AABSENCE", "DESERT", "DISOBEY", "THEF", "THEFTT", "ASSAUL",
            "MURDERE", "MURDER".substring(1), "TFEHT"}) {
            Script.run("no offence, " + word, Army.ARMY, "word " + word, "charge 0 11 = -1\ncaseIs 0 0 = IOOBE\ntype B = 1\n");
        }
    }

    private static void charges() {
        Script.run("A charge makes a case, none yet", Army.ARMY, "caseIs 0 0 = IOOBE\nleft 0 = IOOBE\npass 3 = 3\n");
        Script.run("a case, numbered from 0, at most 20", Army.ARMY, "word THEFT\ncharge 0 11\n".repeat(18), """
            word THEFT
            charge 0 11 = 18
            caseIs 19 0 = IOOBE
            word THEFT
            charge 0 11 = 19
            caseIs 19 0 = 0
            word THEFT
            charge 0 11 = ISE
            caseIs 20 0 = IOOBE
            type A = 6
            """);
        Script.run("20 cases, and a word that is no offence", Army.ARMY, "word THEFT\ncharge 0 11\n".repeat(20), """
            charge 0 11 = ISE
            word THEFTS
            charge 0 11 = ISE
            type A = 7
            charge 0 0 = IAE
            charge 12 0 = IOOBE
            """);
        for (int status = 0; status <= 4; status++) {
            boolean isAlways = status >= 1 && status <= 3;
            Script.run("of a person who is under the law as he is charged, of status " + status, Army.ARMY,
                "status 0 " + status, "word THEFT", "charge 0 11 = " + (isAlways ? "0" : "ISE"));
        }
        Script.run("a FOLLOWER in the field is charged", Army.ARMY, "status 0 4\nplace 1 0\nword THEFT\ncharge 0 11 = 0\n");
        Script.run("whatever he is later", Army.charged("THEFT"), """
            status 0 0
            pass 2 = 2
            caseIs 0 2 = 2
            refer 0 3 0 = 2
            detail 0 4 = 1
            vote 0 4 2 5
            close 0 = 3
            act 0 3 5 = done
            """);
        Script.run("by another one who accuses him", Army.ARMY, """
            word THEFT
            charge 0 0 = IAE
            charge 1 1 = IAE
            status 0 0
            charge 0 0 = IAE
            charge 0 1 = ISE
            """);
        Script.run("who accuses need not be under the law", Army.ARMY, "status 11 0\nword THEFT\ncharge 0 11 = 0\n");
    }

    private static void clocks() {
        Script.run("Its clock is 0; with each day that begins it is 1 more", Army.ARMY, """
            pass 7 = 7
            word THEFT
            charge 0 11 = 0
            caseIs 0 2 = 0
            pass 1 = 8
            caseIs 0 2 = 1
            pass 400 = 408
            caseIs 0 2 = 401
            """);
        Script.run("unless it stands still by a call, through a court and a rehearing", Army.charged("THEFT"), """
            stand 0 1 = false
            pass 9 = 9
            caseIs 0 2 = 0
            refer 0 3 0 = 2
            pass 9 = 18
            withdraw 0
            pass 9 = 27
            refer 0 3 0 = 2
            detail 0 4
            vote 0 4 2 5
            close 0 = 3
            act 0 3 5
            rehear 0 3 = 5
            pass 9 = 36
            caseIs 0 2 = 0
            stand 0 0 = true
            pass 1 = 37
            caseIs 0 2 = 1
            """);
        Script.run("A restraint holds from a call on, through a court and a rehearing", Army.charged("THEFT"), """
            pass 4 = 4
            restrain 0 2 = 0
            caseIs 0 3 = 0
            pass 1 = 5
            caseIs 0 3 = 1
            refer 0 3 0 = 2
            pass 1 = 6
            withdraw 0
            pass 1 = 7
            refer 0 3 0 = 2
            detail 0 4
            vote 0 4 2 30
            close 0 = 3
            pass 1 = 8
            act 0 3 30
            pass 1 = 9
            rehear 0 3 = 30
            pass 1 = 10
            caseIs 0 3 = 4
            restrain 0 1 = 2
            pass 1 = 11
            caseIs 0 3 = 4
            """);
        Script.run("the grade is 0 to 2", Army.charged("THEFT"), """
            restrain 0 MIN = IAE
            restrain 0 -1 = IAE
            restrain 0 0 = 0
            restrain 0 1 = 0
            restrain 0 2 = 1
            restrain 0 3 = IAE
            restrain 0 MAX = IAE
            restrain 0 0 = 2
            """);
        Script.run("what a case is, 0 to 8", Army.charged("MURDER"), """
            caseIs 0 MIN = IAE
            caseIs 0 -1 = IAE
            caseIs 0 0 = 0
            caseIs 0 8 = 200
            caseIs 0 9 = IAE
            caseIs 0 MAX = IAE
            """);
        Script.run("the clocks of two cases", Army.charged("THEFT"), """
            pass 2 = 2
            word THEFT
            charge 0 11 = 1
            stand 0 1 = false
            stand 1 0 = false
            restrain 1 2 = 0
            pass 3 = 5
            caseIs 0 2 = 2
            caseIs 1 2 = 3
            caseIs 0 3 = 0
            caseIs 1 3 = 3
            """);
    }

    private static void punishment() {
        for (int rank = 1; rank <= 9; rank++) {
            Script.run("3 days for each of his own rank, " + rank, "person 0 = 0", "person " + rank, "person 0 = 2", """
                command 0 1
                status 0 1
                word THEFT
                charge 0 2 = 0
                """, "punish 0 1 " + (3 * rank + 1) + " = ISE", "punish 0 1 " + 3 * rank + " = done");
        }
        Script.run("punish, the days are 1 to 99", Army.charged("THEFT"), """
            punish 0 1 MIN = IAE
            punish 0 1 -1 = IAE
            punish 0 1 0 = IAE
            punish 0 1 100 = IAE
            punish 0 1 MAX = IAE
            punish 0 1 99 = ISE
            punish 0 1 1 = done
            left 0 = 1
            """);
        Script.run("the chain is that of today", Army.charged("THEFT"), """
            command 0 7
            punish 0 1 1 = ISE
            punish 0 2 1 = ISE
            punish 0 7 21 = done
            """);
        for (int ceiling = 0; ceiling <= 2; ceiling++) {
            Script.run("punish at most the ceiling of the case, of " + ceiling, Army.acted(), "appeal 0 2 " + ceiling,
                "rehear 0 1 = " + ceiling, "punish 0 1 " + (ceiling + 1) + " = ISE",
                ceiling == 0 ? "punish 0 1 1 = ISE" : "punish 0 1 " + ceiling + " = done");
        }
        Script.run("a ceiling above the power of the rank", Army.acted(), "rehear 0 1 = 90\npunish 0 1 19 = ISE\npunish 0 1 18 = done\n");
        Script.run("punish, if the person did not refuse", Army.charged("THEFT"), """
            word THEFT
            charge 0 11 = 1
            refuse 0 = done
            punish 0 1 1 = ISE
            punish 1 1 1 = done
            """);
        Script.run("he may refuse, not in the field", Army.charged("THEFT"), """
            place 1 1
            refuse 0 = ISE
            place 1 0
            refuse 0 = ISE
            punish 0 1 1 = done
            place 0 0
            refuse 0 = ISE
            """);
        Script.run("who did not accuse him in this case may punish", Army.ARMY, """
            word THEFT
            charge 0 1 = 0
            word THEFT
            charge 0 11 = 1
            punish 0 1 1 = ISE
            punish 1 1 1 = done
            """);
    }

    private static void settingAside() {
        Script.run("set aside, the days", Army.charged("THEFT"), """
            punish 0 1 10
            setAside 0 2 MIN = IAE
            setAside 0 2 -1 = IAE
            setAside 0 2 10 = IAE
            setAside 0 2 11 = IAE
            setAside 0 2 MAX = IAE
            setAside 0 2 9 = done
            left 0 = 9
            setAside 0 2 9 = IAE
            setAside 0 2 8 = done
            left 0 = 8
            setAside 0 2 0 = done
            left 0 = 0
            caseIs 0 0 = 5
            caseIs 0 4 = 0
            caseIs 0 5 = -1
            """);
        Script.run("set aside of a day alone", Army.charged("THEFT"), """
            punish 0 1 1
            setAside 0 2 1 = IAE
            setAside 0 2 0 = done
            caseIs 0 0 = 5
            """);
        Script.run("One in the chain of who punished, as it is today", Army.charged("THEFT"), """
            punish 0 2 10
            setAside 0 1 5 = ISE
            setAside 0 2 5 = ISE
            setAside 0 2 0 = ISE
            setAside 0 3 5 = done
            command 2 -1
            setAside 0 3 4 = ISE
            setAside 0 3 0 = ISE
            """);
        Script.run("set aside, days that are not less, whatever the case is", Army.charged("THEFT"), """
            setAside 0 2 0 = ISE
            setAside 0 2 1 = IAE
            setAside 0 0 1 = IAE
            setAside 0 0 0 = ISE
            """);
        Script.run("What is left is its days less the credit, 0 at least", Army.charged("THEFT"), """
            restrain 0 2
            pass 9 = 9
            left 0 = 0
            punish 0 1 11
            left 0 = 2
            setAside 0 2 10
            left 0 = 1
            setAside 0 2 9
            left 0 = 0
            setAside 0 2 8
            left 0 = 0
            """);
    }

    public static void main(String[] args) {
        persons();
        statuses();
        commanders();
        days();
        words();
        charges();
        clocks();
        punishment();
        settingAside();
        Script.end();
    }
}
