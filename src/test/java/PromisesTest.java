/** Each promise of the document by a script of calls on a new object: ordinary ones, edges and wrong ones. */
public final class PromisesTest {
    private static void persons() {
        Script.run("1 a new object", """
            isUnder 0 = IOOBE
            statusOn 0 0 = IOOBE
            left 0 = IOOBE
            caseIs 0 0 = IOOBE
            person 0 = 0
            statusOn 0 0 = 0
            statusOn 0 1 = IAE
            pass 1 = 1
            """);
        Script.run("2 person", """
            person -1 = IAE
            person 10 = IAE
            person 0 = 0
            person 9 = 1
            person 5 = 2
            isInChain 2 1 = false
            """ + "person 3\n".repeat(8) + """
            person 0 = 11
            person 0 = ISE
            person 10 = IAE
            isUnder 11 = false
            isUnder 12 = IOOBE
            """);
        Script.run("3 status", """
            status 0 1 = IOOBE
            person 0 = 0
            status -1 9 = IOOBE
            status 0 5 = IAE
            status 0 -1 = IAE
            status 0 4 = done
            statusOn 0 0 = 4
            status 0 2 = done
            statusOn 0 0 = 2
            pass 2 = 2
            status 0 0 = done
            statusOn 0 0 = 2
            statusOn 0 1 = 2
            statusOn 0 2 = 0
            person 3 = 1
            status 1 3 = done
            statusOn 0 2 = 0
            """);
        Script.run("4 statusOn", """
            person 0 = 0
            pass 10 = 10
            status 0 1
            pass 10 = 20
            status 0 3
            statusOn 0 0 = 0
            statusOn 0 9 = 0
            statusOn 0 10 = 1
            statusOn 0 19 = 1
            statusOn 0 20 = 3
            statusOn 0 21 = IAE
            statusOn 0 -1 = IAE
            statusOn 1 -1 = IOOBE
            statusOn -1 0 = IOOBE
            """);
        Script.run("5 isUnder", """
            person 0 = 0
            isUnder 0 = false
            status 0 1
            isUnder 0 = true
            status 0 2
            isUnder 0 = true
            status 0 3
            isUnder 0 = true
            status 0 4
            isUnder 0 = false
            place 1 0
            isUnder 0 = true
            place 0 1
            isUnder 0 = false
            status 0 0
            place 1 1
            isUnder 0 = false
            isUnder -1 = IOOBE
            isUnder 1 = IOOBE
            """);
    }

    private static void commandAndDays() {
        Script.run("6 command", """
            person 3 = 0
            person 4 = 1
            person 4 = 2
            command 0 1 = done
            isInChain 0 1 = true
            command 0 2 = done
            isInChain 0 1 = false
            isInChain 0 2 = true
            command 1 2 = IAE
            command 1 1 = IAE
            command 1 0 = IAE
            command 0 -1 = done
            isInChain 0 2 = false
            command 0 -2 = IOOBE
            command 0 3 = IOOBE
            command 3 0 = IOOBE
            command -1 -1 = IOOBE
            """);
        Script.run("7 isInChain", """
            person 1 = 0
            person 2 = 1
            person 3 = 2
            person 3 = 3
            command 1 2
            command 0 1
            isInChain 0 1 = true
            isInChain 0 2 = true
            isInChain 0 3 = false
            isInChain 0 0 = false
            isInChain 2 0 = false
            isInChain 1 0 = false
            command 1 3
            isInChain 0 2 = false
            isInChain 0 3 = true
            isInChain 0 -1 = IOOBE
            isInChain 0 4 = IOOBE
            isInChain 4 0 = IOOBE
            isInChain -1 0 = IOOBE
            """);
        Script.run("8 place", Army.ARMY, """
            status 0 4
            place 1 0 = done
            isUnder 0 = true
            word THEFT
            charge 0 11 = 0
            refuse 0 = ISE
            place 0 1 = done
            isUnder 0 = false
            refer 0 3 0 = ISE
            refuse 0 = done
            place 1 0 = done
            refer 0 3 0 = 2
            """);
        Script.run("9 pass", """
            pass 0 = IAE
            pass -1 = IAE
            pass 401 = IAE
            pass 1 = 1
            pass 400 = 401
            pass 400 = 801
            """);
    }

    private static void words() {
        Script.run("10 type", """
            type @ = IAE
            type [ = IAE
            type a = IAE
            type 0 = IAE
            type 321 = IAE
            type A = 1
            type Z = 2
            """ + "type M\n".repeat(9) + """
            type B = 12
            type C = ISE
            type c = IAE
            """, Army.ARMY, "charge 0 11 = -1\ntype C = 1\n");
        Script.run("11 charge", Army.ARMY, """
            charge 0 11 = -1
            word MURDER
            charge 0 0 = IAE
            charge 12 12 = IOOBE
            charge 0 12 = IOOBE
            charge 0 -1 = IOOBE
            charge 1 0 = ISE
            charge 0 1 = 0
            charge 0 1 = -1
            word MURDERS
            charge 0 1 = -1
            word MURDE
            charge 0 1 = -1
            word MURDER
            charge 0 1 = 1
            caseIs 1 1 = 0
            status 0 0
            word MURDER
            charge 0 1 = ISE
            status 0 2
            charge 0 1 = 2
            status 1 1
            word THEFT
            charge 1 0 = 3
            caseIs 3 1 = 1
            caseIs 4 1 = IOOBE
            """);
        Script.run("11 charge, 20 cases", Army.ARMY, "word THEFT\ncharge 0 11\n".repeat(19), """
            word NOTHING
            charge 0 11 = -1
            word ASSAULT
            charge 0 11 = 19
            word ASSAULT
            charge 0 11 = ISE
            charge 0 0 = IAE
            charge 0 99 = IOOBE
            caseIs 19 0 = 0
            caseIs 20 0 = IOOBE
            """);
        offence("ABSENCE", 60, -1, false);
        offence("DESERTION", 700, 60, false);
        offence("DISRESPECT", 180, -1, false);
        offence("DISOBEYING", 365, 180, false);
        offence("THEFT", 400, -1, true);
        offence("ASSAULT", 200, -1, true);
        offence("MURDER", 999, 200, true);
    }

    private static void offence(String word, int whole, int lesser, boolean isOfAll) {
        Script.run("11 and 12 " + word, Army.charged(word), "caseIs 0 7 = " + whole, "caseIs 0 8 = " + lesser, "place 0 1",
                "refer 0 3 2 = " + (isOfAll ? "ISE" : "2"), "place 1 0", "refer 0 3 2 = " + (isOfAll ? "2" : "ISE"));
        Script.run("27 the lesser one of " + word, Army.referred(word, 2), """
            detail 0 4
            detail 0 5
            detail 0 6
            detail 0 7
            detail 0 8
            vote 0 4 1 999
            vote 0 5 1 999
            vote 0 6 1 999
            vote 0 7 2 999
            vote 0 8 2 999
            """, "close 0 = " + (lesser == -1 ? 5 : 3), "caseIs 0 5 = " + (lesser == -1 ? 0 : 1),
            "caseIs 0 4 = " + Math.max(lesser, 0));
    }

    private static void clocks() {
        Script.run("12 caseIs", Army.charged("DESERTION"), """
            caseIs 0 0 = 0
            caseIs 0 1 = 0
            caseIs 0 2 = 0
            caseIs 0 3 = 0
            caseIs 0 4 = 0
            caseIs 0 5 = -1
            caseIs 0 6 = -1
            caseIs 0 7 = 700
            caseIs 0 8 = 60
            caseIs 0 9 = IAE
            caseIs 0 -1 = IAE
            caseIs 1 9 = IOOBE
            caseIs -1 0 = IOOBE
            """);
        Script.run("12 caseIs, clock and credit by state", Army.voted("DESERTION", 0, 20), """
            restrain 0 2
            pass 3 = 3
            caseIs 0 2 = 3
            caseIs 0 3 = 3
            caseIs 0 4 = 0
            caseIs 0 5 = -1
            close 0 = 3
            caseIs 0 5 = 2
            caseIs 0 4 = 20
            pass 2 = 5
            caseIs 0 2 = 3
            caseIs 0 3 = 3
            act 0 3 10
            pass 2 = 7
            caseIs 0 2 = 3
            caseIs 0 3 = 3
            caseIs 0 4 = 10
            rehear 0 3 = 10
            caseIs 0 2 = 0
            pass 4 = 11
            caseIs 0 2 = 4
            caseIs 0 3 = 7
            caseIs 0 4 = 0
            caseIs 0 5 = -1
            punish 0 1 5
            pass 4 = 15
            caseIs 0 2 = 4
            caseIs 0 3 = 7
            """);
        Script.run("13 left", Army.charged("ABSENCE"), """
            left 0 = 0
            left 1 = IOOBE
            left -1 = IOOBE
            restrain 0 2
            pass 5 = 5
            left 0 = 0
            punish 0 1 6
            left 0 = 1
            setAside 0 2 5
            left 0 = 0
            setAside 0 2 4
            left 0 = 0
            """);
        Script.run("13 left by state", Army.voted("DESERTION", 0, 20), """
            restrain 0 2
            pass 5 = 5
            left 0 = 0
            close 0 = 3
            left 0 = 0
            act 0 3 18
            left 0 = 13
            rehear 0 3 = 18
            left 0 = 0
            """);
        Script.run("14 stand", Army.charged("ABSENCE"), """
            stand 0 0 = false
            pass 2 = 2
            stand 0 1 = false
            stand 0 1 = true
            pass 2 = 4
            caseIs 0 2 = 2
            refer 0 1 0 = 2
            pass 2 = 6
            caseIs 0 2 = 2
            stand 0 0 = true
            stand 0 0 = false
            pass 2 = 8
            caseIs 0 2 = 4
            stand 1 1 = IOOBE
            stand -1 1 = IOOBE
            """);
        Script.run("15 restrain", Army.charged("ABSENCE"), """
            restrain 0 1 = 0
            pass 2 = 2
            caseIs 0 3 = 0
            restrain 0 2 = 1
            pass 2 = 4
            caseIs 0 3 = 2
            refer 0 1 0 = 2
            stand 0 1
            pass 2 = 6
            caseIs 0 3 = 4
            restrain 0 0 = 2
            pass 2 = 8
            caseIs 0 3 = 4
            restrain 0 3 = IAE
            restrain 0 -1 = IAE
            restrain 0 0 = 0
            restrain 1 3 = IOOBE
            restrain -1 0 = IOOBE
            """);
        Script.run("16 waive", Army.charged("THEFT"), """
            word THEFT
            charge 0 11 = 1
            place 0 1
            refer 0 3 0 = ISE
            waive 0 = done
            waive 2 = IOOBE
            waive -1 = IOOBE
            refer 1 3 0 = ISE
            refer 0 3 0 = 2
            withdraw 0
            refer 0 3 0 = 2
            place 0 0
            refer 1 3 0 = 2
            """);
    }

    private static void minorPunishment() {
        Script.run("17 refuse", Army.charged("ABSENCE"), """
            refuse 1 = IOOBE
            refuse -1 = IOOBE
            place 1 0
            refuse 0 = ISE
            place 0 1
            refer 0 1 0 = 2
            refuse 0 = ISE
            withdraw 0
            refuse 0 = done
            refuse 0 = done
            punish 0 1 1 = ISE
            place 1 0
            punish 0 1 1 = ISE
            """);
        Script.run("17 refuse, of a PUNISHED case", Army.charged("ABSENCE"), "punish 0 1 1\nrefuse 0 = ISE\n");
        Script.run("18 punish", Army.charged("ABSENCE"), """
            punish 0 1 0 = IAE
            punish 0 1 100 = IAE
            punish 0 1 99 = ISE
            punish 0 12 0 = IOOBE
            punish 1 1 0 = IOOBE
            punish -1 1 1 = IOOBE
            punish 0 -1 1 = IOOBE
            punish 0 1 19 = ISE
            punish 0 7 1 = ISE
            punish 0 0 1 = ISE
            punish 0 11 1 = ISE
            punish 0 1 18 = done
            caseIs 0 0 = 1
            caseIs 0 4 = 18
            caseIs 0 5 = -1
            punish 0 1 18 = ISE
            punish 0 1 0 = IAE
            """);
        Script.run("18 punish, by who accused", Army.ARMY, """
            word ABSENCE
            charge 0 1 = 0
            punish 0 1 1 = ISE
            punish 0 3 28 = ISE
            punish 0 3 27 = done
            """);
        Script.run("18 punish, of one no more under the law", Army.charged("ABSENCE"), "status 0 0\npunish 0 2 24 = done\n");
        Script.run("18 punish, below the ceiling", Army.acted(), """
            appeal 0 2 7
            rehear 0 2 = 7
            punish 0 1 8 = ISE
            punish 0 1 7 = done
            caseIs 0 4 = 7
            """);
        Script.run("18 punish, of a ceiling of 0", Army.acted(), "appeal 0 2 0\nrehear 0 2 = 0\npunish 0 1 1 = ISE\n");
        Script.run("19 setAside", Army.charged("ABSENCE"), """
            setAside 0 2 0 = ISE
            setAside 0 2 1 = IAE
            punish 0 1 10
            setAside 0 2 -1 = IAE
            setAside 0 2 10 = IAE
            setAside 0 2 11 = IAE
            setAside 0 12 -1 = IOOBE
            setAside 1 2 -1 = IOOBE
            setAside 0 -1 1 = IOOBE
            setAside -1 2 1 = IOOBE
            setAside 0 1 9 = ISE
            setAside 0 0 9 = ISE
            setAside 0 7 0 = ISE
            setAside 0 2 9 = done
            caseIs 0 0 = 1
            caseIs 0 4 = 9
            setAside 0 2 9 = IAE
            setAside 0 3 0 = done
            caseIs 0 0 = 5
            caseIs 0 4 = 0
            setAside 0 3 0 = ISE
            setAside 0 3 5 = IAE
            """);
        Script.run("19 setAside, by who accused", Army.ARMY, """
            word ABSENCE
            charge 0 3 = 0
            punish 0 2 10
            setAside 0 3 5 = done
            """);
        Script.run("19 setAside, of another state", Army.voted("ABSENCE", 0, 20), """
            close 0 = 3
            setAside 0 3 20 = IAE
            setAside 0 3 19 = ISE
            """);
    }

    private static void referral() {
        Script.run("20 refer", Army.charged("ABSENCE"), """
            refer 0 1 3 = IAE
            refer 0 1 -1 = IAE
            refer 0 12 3 = IOOBE
            refer 1 1 3 = IOOBE
            refer 0 -1 0 = IOOBE
            refer -1 1 0 = IOOBE
            refer 0 1 2 = ISE
            refer 0 7 0 = ISE
            refer 0 11 0 = ISE
            refer 0 0 0 = ISE
            refer 0 1 1 = 2
            caseIs 0 0 = 2
            refer 0 1 1 = ISE
            refer 0 1 3 = IAE
            """);
        Script.run("20 refer, the ranks", """
            person 1 = 0
            person 3 = 1
            person 4 = 2
            person 5 = 3
            person 6 = 4
            person 7 = 5
            person 8 = 6
            person 0 = 7
            command 0 1
            command 1 2
            command 2 3
            command 3 4
            command 4 5
            command 5 6
            status 0 1
            word ABSENCE
            charge 0 7 = 0
            refer 0 1 0 = ISE
            refer 0 2 1 = ISE
            refer 0 3 1 = ISE
            refer 0 4 2 = ISE
            refer 0 5 2 = ISE
            refer 0 2 0 = 2
            withdraw 0
            refer 0 4 1 = 2
            withdraw 0
            refer 0 6 2 = 2
            """);
        Script.run("20 refer, by who accused", Army.ARMY, """
            word ABSENCE
            charge 0 1 = 0
            refer 0 1 0 = ISE
            refer 0 2 0 = 2
            """);
        Script.run("20 refer, a clock of 120", Army.charged("ABSENCE"), "pass 120 = 120\nrefer 0 1 0 = 2\n");
        Script.run("20 refer, a clock of 121", Army.charged("ABSENCE"), """
            pass 121 = 121
            refer 0 1 2 = ISE
            refer 0 1 0 = 5
            caseIs 0 0 = 5
            caseIs 0 2 = 121
            caseIs 0 4 = 0
            caseIs 0 5 = -1
            refer 0 1 0 = ISE
            pass 5 = 126
            caseIs 0 2 = 121
            """);
        Script.run("20 refer, a clock that ran on in the court", Army.referred("ABSENCE", 0), """
            pass 121 = 121
            caseIs 0 0 = 2
            withdraw 0 = done
            refer 0 3 0 = 5
            """);
        Script.run("21 withdraw", Army.voted("DISRESPECT", 1, 9, 9, 9), """
            withdraw 1 = IOOBE
            withdraw -1 = IOOBE
            pass 7 = 7
            withdraw 0 = done
            caseIs 0 0 = 0
            caseIs 0 2 = 7
            withdraw 0 = ISE
            refer 0 2 0 = 2
            close 0 = -1
            vote 0 4 2 9 = ISE
            detail 0 4 = 1
            close 0 = -1
            vote 0 4 2 9 = done
            close 0 = 3
            withdraw 0 = ISE
            """);
        Script.run("22 request", Army.charged("ABSENCE"), """
            request 1 = IOOBE
            request -1 = IOOBE
            request 0 = done
            request 0 = done
            refer 0 1 0 = 2
            detail 0 10 = 1
            withdraw 0
            refer 0 1 0 = 2
            detail 0 9 = 1
            withdraw 0
            pass 121 = 121
            refer 0 1 0 = 5
            request 0 = ISE
            """);
        Script.run("22 request, an officer", """
            person 4 = 0
            person 9 = 1
            person 3 = 2
            status 0 1
            status 2 1
            word ABSENCE
            charge 0 1 = 0
            request 0 = ISE
            word ABSENCE
            charge 2 1 = 1
            request 1 = done
            """);
        Script.run("22 request, once TRIED", Army.voted("ABSENCE", 0, 5), "close 0 = 3\nrequest 0 = done\n");
    }

    private static void members() {
        Script.run("23 detail", Army.charged("ABSENCE"), """
            detail 0 4 = ISE
            refer 0 2 1 = 2
            detail 0 0 = ISE
            detail 0 11 = ISE
            detail 0 2 = ISE
            detail 0 9 = ISE
            detail 0 12 = IOOBE
            detail 0 -1 = IOOBE
            detail 1 4 = IOOBE
            detail -1 4 = IOOBE
            detail 0 4 = 1
            detail 0 4 = ISE
            detail 0 3 = 2
            detail 0 1 = 3
            request 0
            detail 0 9 = 4
            withdraw 0
            detail 0 4 = ISE
            refer 0 1 1 = 2
            detail 0 1 = ISE
            detail 0 2 = 1
            """);
        Script.run("23 detail, the ranks and who accused", """
            person 5 = 0
            person 5 = 1
            person 6 = 2
            person 9 = 3
            person 6 = 4
            person 4 = 5
            command 0 3
            status 0 1
            word THEFT
            charge 0 2 = 0
            refer 0 3 0 = 2
            detail 0 1 = ISE
            detail 0 5 = ISE
            detail 0 2 = ISE
            detail 0 4 = 1
            """);
        Script.run("23 detail, 9 at most", """
            person 1 = 0
            person 9 = 1
            person 0 = 2
            """ + "person 4\n".repeat(9) + """
            status 0 1
            command 0 1
            word THEFT
            charge 0 2 = 0
            request 0
            refer 0 1 2 = 2
            """ + "detail 0 3\ndetail 0 4\ndetail 0 5\ndetail 0 6\ndetail 0 7\ndetail 0 8\ndetail 0 9\ndetail 0 10 = 8\n" + """
            detail 0 11 = 9
            detail 0 11 = ISE
            """);
        Script.run("24 challenge", Army.voted("ABSENCE", 0, 30, 30), """
            challenge 0 6 = ISE
            challenge 0 12 = IOOBE
            challenge 0 -1 = IOOBE
            challenge 1 4 = IOOBE
            challenge -1 4 = IOOBE
            challenge 0 4 = 1
            challenge 0 4 = ISE
            detail 0 4 = ISE
            vote 0 4 2 30 = ISE
            withdraw 0
            challenge 0 5 = ISE
            refer 0 3 0 = 2
            detail 0 4 = ISE
            detail 0 5 = 1
            challenge 0 5 = 0
            """);
        Script.run("24 challenge, the vote is gone", Army.voted("ABSENCE", 1, 60, 60, 60, 60), """
            vote 0 4 0 0
            vote 0 5 0 0
            challenge 0 4 = 3
            close 0 = 3
            caseIs 0 5 = 2
            """);
        Script.run("24 challenge, only in this case", Army.voted("ABSENCE", 0, 30), """
            challenge 0 4 = 0
            word ABSENCE
            charge 0 11 = 1
            refer 1 3 0 = 2
            detail 1 4 = 1
            """);
        Script.run("25 talk", Army.referred("ABSENCE", 0), """
            talk 1 1 1 = IOOBE
            talk -1 1 1 = IOOBE
            talk 0 12 4 = IOOBE
            talk 0 -1 4 = IOOBE
            talk 0 4 12 = IOOBE
            talk 0 4 -1 = IOOBE
            talk 0 4 5 = false
            talk 0 5 6 = false
            talk 0 5 5 = false
            talk 0 5 4 = true
            talk 0 4 4 = true
            talk 0 0 4 = true
            word ABSENCE
            charge 0 11 = 1
            talk 1 4 4 = false
            """);
    }

    private static void taints() {
        Script.run("25 talk, before he is a member", Army.charged("ABSENCE"), """
            talk 0 5 4 = true
            refer 0 3 0 = 2
            detail 0 4 = 1
            vote 0 4 2 30
            close 0 = -1
            detail 0 5 = 2
            close 0 = -1
            vote 0 5 0 0
            close 0 = 5
            """);
        Script.run("25 talk, after he voted", Army.voted("ABSENCE", 1, 50, 50, 50), """
            talk 0 5 4 = true
            close 0 = -1
            detail 0 7 = 4
            vote 0 7 2 40
            close 0 = 3
            caseIs 0 4 = 50
            """);
        Script.run("25 talk, for good", Army.voted("ABSENCE", 0, 20), """
            talk 0 5 4 = true
            withdraw 0
            refer 0 3 0 = 2
            detail 0 4 = 1
            vote 0 4 2 20
            close 0 = -1
            """);
        Script.run("25 talk, through a rehearing", Army.acted(), """
            talk 0 5 4 = true
            rehear 0 1
            talk 0 4 4 = true
            refer 0 1 0 = 2
            detail 0 4 = 1
            vote 0 4 2 20
            close 0 = -1
            """);
        Script.run("25 and 28 talk, after the court closed", Army.voted("DISRESPECT", 1, 150, 150, 150, 20), """
            close 0 = 3
            caseIs 0 4 = 150
            talk 0 8 4 = true
            talk 0 8 5 = true
            caseIs 0 4 = 150
            caseIs 0 5 = 2
            sentenceAnew 0 = 150
            """);
        Script.run("26 vote", Army.referred("ABSENCE", 0), """
            detail 0 4 = 1
            vote 0 4 3 0 = IAE
            vote 0 4 -1 0 = IAE
            vote 0 4 0 -1 = IAE
            vote 0 4 0 1000 = IAE
            vote 0 12 3 0 = IOOBE
            vote 1 4 3 0 = IOOBE
            vote 0 -1 0 0 = IOOBE
            vote -1 4 0 0 = IOOBE
            vote 0 5 0 0 = ISE
            vote 0 5 0 1000 = IAE
            vote 0 4 0 999 = done
            vote 0 4 2 10 = done
            vote 0 4 3 20 = IAE
            vote 0 4 2 0 = done
            vote 0 4 2 15 = done
            close 0 = 3
            caseIs 0 4 = 15
            vote 0 4 2 15 = ISE
            vote 0 4 3 15 = IAE
            """);
    }

    private static void closing() {
        Script.run("27 close", Army.charged("ABSENCE"), """
            close 0 = ISE
            close 1 = IOOBE
            close -1 = IOOBE
            refer 0 3 1 = 2
            close 0 = -1
            detail 0 4 = 1
            vote 0 4 2 9
            detail 0 5 = 2
            vote 0 5 2 9
            close 0 = -1
            detail 0 6 = 3
            close 0 = -1
            detail 0 7 = 4
            vote 0 6 2 9
            close 0 = -1
            caseIs 0 0 = 2
            vote 0 7 0 9
            close 0 = 3
            caseIs 0 0 = 3
            close 0 = ISE
            """);
        Script.run("27 close, GENERAL needs 5", Army.voted("MURDER", 2, 999, 999, 999, 999), """
            close 0 = -1
            detail 0 8 = 5
            vote 0 8 2 999
            close 0 = 3
            caseIs 0 4 = 999
            """);
        Script.run("27 close, the cap of SUMMARY", Army.voted("MURDER", 0, 999), "close 0 = 3\ncaseIs 0 4 = 30\nsentenceAnew 0 = 30\n");
        Script.run("27 close, the cap of SPECIAL", Army.voted("MURDER", 1, 999, 999, 999), "close 0 = 3\ncaseIs 0 4 = 180\n");
        Script.run("27 close, the greatest of the finding", Army.voted("DISOBEYING", 2, 999, 999, 999, 999, 999), """
            close 0 = 3
            caseIs 0 4 = 365
            sentenceAnew 0 = 365
            """);
        Script.run("27 close, the lesser one", Army.voted("MURDER", 2, 999, 999, 999, 999, 999), """
            vote 0 4 1 999
            vote 0 5 0 999
            close 0 = 3
            caseIs 0 5 = 1
            caseIs 0 4 = 200
            sentenceAnew 0 = 200
            """);
        Script.run("27 close, acquitted", Army.voted("MURDER", 1, 50, 60, 70), """
            vote 0 4 0 50
            vote 0 5 0 60
            close 0 = 5
            caseIs 0 0 = 5
            caseIs 0 5 = 0
            caseIs 0 4 = 0
            sentenceAnew 0 = -1
            close 0 = ISE
            """);
        Script.run("27 close, two thirds of 4 are 3", Army.voted("THEFT", 1, 50, 50, 50, 50), "vote 0 4 0 0\nclose 0 = 3\n");
        Script.run("27 close, 2 of 4 are too few", Army.voted("THEFT", 1, 50, 50, 50, 50), """
            vote 0 4 0 0
            vote 0 5 1 0
            close 0 = 5
            """);
        Script.run("27 close, men", Army.voted("THEFT", 1, 50, 50, 50), """
            request 0
            close 0 = -1
            detail 0 9 = 4
            vote 0 9 2 50
            close 0 = -1
            detail 0 10 = 5
            vote 0 10 2 50
            close 0 = 3
            """);
        Script.run("27 close, a third of 3 is a man, tainted he is none", Army.voted("THEFT", 0, 10, 10), """
            request 0
            detail 0 9 = 3
            detail 0 10 = 4
            vote 0 9 2 10
            vote 0 10 2 10
            talk 0 4 10 = true
            talk 0 4 9 = true
            close 0 = -1
            challenge 0 9 = 3
            close 0 = -1
            """);
        Script.run("27 close, a man of 3", Army.voted("THEFT", 0, 10, 10), """
            request 0
            detail 0 9 = 3
            vote 0 9 2 10
            close 0 = 3
            """);
        Script.run("27 close, a tainted one need not vote", Army.voted("THEFT", 0, 10), """
            detail 0 5 = 2
            close 0 = -1
            talk 0 3 5 = true
            close 0 = 3
            """);
    }

    private static void sentence(String title, int due, int... days) {
        Script.run("27 and 28 the sentence, " + title, Army.voted("MURDER", days.length < 5 ? 1 : 2, days), """
            sentenceAnew 0 = -1
            close 0 = 3
            """, "caseIs 0 4 = " + due, "sentenceAnew 0 = " + due);
    }

    private static void sentences() {
        sentence("two thirds up to 100", 100, 150, 100, 0);
        sentence("two thirds above 100 are too few", 100, 101, 101, 0);
        sentence("three fourths above 100", 101, 101, 101, 101, 0);
        sentence("half is too few", 60, 90, 90, 60, 0);
        sentence("three fourths of 5 are 4", 100, 300, 300, 300, 100, 0);
        sentence("4 of 5", 250, 300, 300, 300, 250, 0);
        sentence("two thirds of 5 are 4", 20, 90, 90, 90, 20, 0);
        sentence("nothing", 0, 500, 0, 0);
        sentence("a day", 1, 1, 1, 0);
        Script.run("27 the sentence, whatever finding they voted", Army.voted("MURDER", 1, 120, 120, 120, 120), """
            vote 0 4 0 30
            close 0 = 3
            caseIs 0 5 = 2
            caseIs 0 4 = 120
            """);
        Script.run("27 the sentence, of who voted 0 too", Army.voted("MURDER", 1, 40, 20, 20), """
            vote 0 5 0 40
            close 0 = 3
            caseIs 0 4 = 40
            """);
        Script.run("27 the sentence, below the ceiling", Army.acted(), """
            appeal 0 3 35
            rehear 0 1 = 35
            refer 0 2 1 = 2
            detail 0 4 = 1
            detail 0 5 = 2
            detail 0 6 = 3
            vote 0 4 2 99
            vote 0 5 2 99
            vote 0 6 2 99
            sentenceAnew 0 = -1
            close 0 = 3
            caseIs 0 4 = 35
            caseIs 0 6 = 35
            sentenceAnew 0 = 35
            """);
        Script.run("28 sentenceAnew", Army.acted(), """
            sentenceAnew 1 = IOOBE
            sentenceAnew -1 = IOOBE
            caseIs 0 4 = 90
            sentenceAnew 0 = 100
            appeal 0 2 3
            sentenceAnew 0 = 100
            rehear 0 2 = 3
            sentenceAnew 0 = -1
            punish 0 2 2
            sentenceAnew 0 = -1
            """);
    }

    private static void action() {
        Script.run("29 act", Army.voted("THEFT", 0, 25), """
            act 0 3 0 = ISE
            act 0 3 1 = IAE
            close 0 = 3
            act 0 3 26 = IAE
            act 0 3 -1 = IAE
            act 0 12 26 = IOOBE
            act 1 3 26 = IOOBE
            act 0 -1 0 = IOOBE
            act -1 3 0 = IOOBE
            act 0 2 25 = ISE
            act 0 0 25 = ISE
            act 0 3 25 = done
            caseIs 0 0 = 4
            caseIs 0 4 = 25
            act 0 3 25 = ISE
            act 0 3 26 = IAE
            """);
        Script.run("29 act, of 0 days", Army.voted("THEFT", 0, 25), "close 0 = 3\nact 0 3 0 = done\ncaseIs 0 0 = 4\ncaseIs 0 4 = 0\n");
        Script.run("29 act, by who referred it last", Army.charged("THEFT"), """
            refer 0 1 0 = 2
            withdraw 0
            refer 0 2 0 = 2
            detail 0 4
            vote 0 4 2 12
            close 0 = 3
            act 0 1 12 = ISE
            act 0 3 12 = ISE
            act 0 2 12 = done
            """);
        Script.run("30 appeal", Army.charged("THEFT"), """
            appeal 0 2 0 = ISE
            refer 0 1 0 = 2
            detail 0 4
            vote 0 4 2 12
            close 0 = 3
            appeal 0 2 12 = ISE
            appeal 0 2 13 = IAE
            act 0 1 11
            appeal 0 2 12 = IAE
            appeal 0 2 -1 = IAE
            appeal 0 12 12 = IOOBE
            appeal 1 2 12 = IOOBE
            appeal 0 -1 1 = IOOBE
            appeal -1 2 1 = IOOBE
            appeal 0 1 9 = ISE
            appeal 0 0 9 = ISE
            appeal 0 7 9 = ISE
            appeal 0 2 11 = done
            appeal 0 3 9 = done
            caseIs 0 4 = 9
            caseIs 0 0 = 4
            appeal 0 2 10 = IAE
            appeal 0 2 0 = done
            caseIs 0 4 = 0
            caseIs 0 0 = 4
            """);
        Script.run("30 appeal, by the chain of today", Army.acted(), """
            command 1 3
            appeal 0 2 9 = ISE
            appeal 0 3 9 = done
            """);
        Script.run("31 rehear", Army.charged("THEFT"), """
            rehear 0 1 = ISE
            rehear 1 1 = IOOBE
            rehear -1 1 = IOOBE
            rehear 0 12 = IOOBE
            rehear 0 -1 = IOOBE
            refer 0 1 0 = 2
            detail 0 4
            vote 0 4 2 12
            close 0 = 3
            rehear 0 1 = ISE
            act 0 1 11
            rehear 0 0 = ISE
            rehear 0 4 = ISE
            rehear 0 7 = ISE
            rehear 0 1 = 11
            rehear 0 1 = ISE
            caseIs 0 0 = 0
            caseIs 0 6 = 11
            """);
        rehearing();
    }

    private static void rehearing() {
        Script.run("31 rehear, by one above", Army.acted(), "rehear 0 3 = 90\ncaseIs 0 6 = 90\n");
        Script.run("31 rehear, what stays", Army.charged("THEFT"), """
            refuse 0
            waive 0
            request 0
            restrain 0 2
            stand 0 1
            pass 8 = 8
            refer 0 1 0 = 2
            detail 0 4
            detail 0 9
            detail 0 5
            challenge 0 5 = 2
            vote 0 4 2 12
            vote 0 9 2 12
            close 0 = 3
            act 0 1 12
            rehear 0 1 = 12
            caseIs 0 3 = 8
            caseIs 0 2 = 0
            punish 0 1 1 = ISE
            place 0 1
            refer 0 1 0 = 2
            detail 0 5 = ISE
            vote 0 4 2 5 = ISE
            detail 0 4 = 1
            close 0 = -1
            vote 0 4 2 5
            close 0 = -1
            detail 0 9 = 2
            vote 0 9 2 12
            close 0 = 3
            caseIs 0 4 = 5
            stand 0 1 = true
            restrain 0 2 = 2
            """);
        Script.run("31 rehear, a clock of 0", Army.charged("THEFT"), """
            pass 119 = 119
            refer 0 3 0 = 2
            detail 0 4
            vote 0 4 2 12
            close 0 = 3
            act 0 3 12
            pass 100 = 219
            rehear 0 3 = 12
            caseIs 0 2 = 0
            pass 120 = 339
            refer 0 3 0 = 2
            """);
        Script.run("31 rehear, again below the ceiling", Army.acted(), """
            rehear 0 1 = 90
            refer 0 1 0 = 2
            detail 0 4
            vote 0 4 2 99
            close 0 = 3
            act 0 1 28
            rehear 0 2 = 28
            caseIs 0 6 = 28
            """);
    }

    public static void main(String[] args) {
        persons();
        commandAndDays();
        words();
        clocks();
        minorPunishment();
        referral();
        members();
        taints();
        closing();
        sentences();
        action();
        Script.end();
    }
}
