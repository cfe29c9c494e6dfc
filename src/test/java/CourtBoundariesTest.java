/** Each sentence of the document that names a boundary, of courts, action and appeals. */
public final class CourtBoundariesTest {
    // Written out by hand, by the count of members: the shares, rounded up.
    private static final int[] TWO_THIRDS = {0, 1, 2, 2, 3, 4, 4, 5, 6, 6};
    private static final int[] THREE_FOURTHS = {0, 1, 2, 3, 3, 4, 5, 6, 6, 7};
    private static final int[] THIRD = {0, 1, 1, 1, 2, 2, 2, 3, 3, 3};

    /** Case 0 of the man 0, accused by 2, referred by 1; 3 to 11 can be members, so many of them from 3 on men. */
    private static String court(String word, int court, int men) {
        StringBuilder script = new StringBuilder("person 0 = 0\nperson 9 = 1\nperson 0 = 2\n");
        for (int member = 3; member <= 11; member++) {
            script.append("person ").append(member < 3 + men ? 3 : 4).append('\n');
        }
        return script + "status 0 1\ncommand 0 1\nword " + word + "\ncharge 0 2 = 0\nrefer 0 1 " + court + " = 2\n";
    }

    /** The members from one on vote alike. */
    private static String votes(int from, int count, int finding, int days) {
        StringBuilder script = new StringBuilder();
        for (int member = from; member < from + count; member++) {
            script.append("detail 0 ").append(member).append("\nvote 0 ").append(member).append(' ').append(finding)
                .append(' ').append(days).append('\n');
        }
        return script.toString();
    }

    private static void powers() {
        int[] least = {4, 6, 8};
        for (int court = 0; court < 3; court++) {
            for (int rank = 3; rank <= 9; rank++) {
                Script.run("the court " + court + ", by the rank " + rank, "person 0 = 0", "person " + rank, "person 0 = 2", """
                    command 0 1
                    status 0 1
                    word DESERTION
                    charge 0 2 = 0
                    """, "refer 0 1 " + court + " = " + (rank >= least[court] ? "2" : "ISE"));
            }
        }
        Script.run("a court is SUMMARY to GENERAL", Army.charged("THEFT"), """
            refer 0 3 MIN = IAE
            refer 0 3 -1 = IAE
            refer 0 3 3 = IAE
            refer 0 3 MAX = IAE
            refer 0 3 2 = 2
            refer 0 3 3 = IAE
            refer 0 3 2 = ISE
            """);
        Script.run("not if it is of all and the army is abroad, unless it was waived", Army.charged("MURDER"), """
            place 1 1
            refer 0 3 2 = ISE
            place 0 1
            refer 0 3 2 = ISE
            waive 0 = done
            waive 0 = done
            refer 0 3 2 = 2
            """);
        Script.run("abroad, of order", Army.charged("DISOBEYING"), "place 1 1\nrefer 0 3 2 = 2\n");
        Script.run("abroad, once it was REFERRED at home", Army.charged("MURDER"), """
            refer 0 3 0 = 2
            place 0 1
            detail 0 4 = 1
            vote 0 4 2 5
            close 0 = 3
            act 0 3 5 = done
            rehear 0 3 = 5
            refer 0 3 0 = ISE
            """);
    }

    private static void clocks() {
        Script.run("a clock of 120 as it is referred", Army.charged("THEFT"), "pass 120 = 120\nrefer 0 3 0 = 2\ncaseIs 0 2 = 120\n");
        Script.run("A case with a clock above 120 as it is referred is CLOSED instead", Army.charged("THEFT"), """
            pass 121 = 121
            refer 0 3 3 = IAE
            refer 0 4 0 = ISE
            refer 0 1 1 = 5
            caseIs 0 0 = 5
            caseIs 0 2 = 121
            caseIs 0 4 = 0
            caseIs 0 5 = -1
            caseIs 0 6 = -1
            left 0 = 0
            detail 0 4 = ISE
            """);
        Script.run("a clock of 121, without the power to refer", Army.charged("THEFT"), """
            pass 121 = 121
            refer 0 1 2 = ISE
            place 0 1
            refer 0 3 2 = ISE
            caseIs 0 0 = 0
            """);
        Script.run("a clock of 120 that stood still for a day", Army.charged("THEFT"), """
            pass 60 = 60
            stand 0 1 = false
            pass 1 = 61
            stand 0 0 = true
            pass 60 = 121
            refer 0 3 0 = 2
            """);
        Script.run("a clock of 121, one day of it before a court", Army.charged("THEFT"), """
            pass 120 = 120
            refer 0 3 0 = 2
            pass 1 = 121
            caseIs 0 0 = 2
            withdraw 0 = done
            caseIs 0 2 = 121
            refer 0 3 0 = 5
            """);
        Script.run("a clock above 120 does not keep from punishing", Army.charged("THEFT"), "pass 400 = 400\npunish 0 1 18 = done\n");
        Script.run("a rehearing's clock of 0, then 121", Army.acted(), """
            rehear 0 1 = 90
            pass 121 = 121
            refer 0 1 0 = 5
            caseIs 0 4 = 0
            caseIs 0 5 = -1
            caseIs 0 6 = 90
            """);
    }

    private static void members() {
        Script.run("Members are at most 9, none at first", court("THEFT", 2, 0), "close 0 = -1\n", votes(3, 9, 2, 300), """
            detail 0 3 = ISE
            detail 0 11 = ISE
            detail 0 0 = ISE
            detail 0 1 = ISE
            detail 0 2 = ISE
            detail 0 12 = IOOBE
            close 0 = 3
            caseIs 0 4 = 300
            """);
        Script.run("Members, of a rank above the person's", """
            person 5 = 0
            person 9 = 1
            person 3 = 2
            person 4 = 3
            person 5 = 4
            person 6 = 5
            status 0 1
            command 0 1
            word THEFT
            charge 0 2 = 0
            refer 0 1 0 = 2
            detail 0 3 = ISE
            detail 0 4 = ISE
            detail 0 5 = 1
            """);
        Script.run("Men, of a rank above the person's", """
            person 2 = 0
            person 9 = 1
            person 0 = 2
            person 1 = 3
            person 2 = 4
            person 3 = 5
            person 3 = 6
            status 0 1
            command 0 1
            word THEFT
            charge 0 2 = 0
            refer 0 1 0 = 2
            detail 0 5 = ISE
            request 0
            detail 0 3 = ISE
            detail 0 4 = ISE
            detail 0 5 = 1
            detail 0 6 = 2
            """);
        Script.run("nor who referred it last", Army.charged("THEFT"), """
            refer 0 1 0 = 2
            detail 0 1 = ISE
            detail 0 2 = 1
            withdraw 0
            refer 0 2 0 = 2
            detail 0 2 = ISE
            detail 0 1 = 1
            """);
        Script.run("not who accused, though he may be a member in another case", Army.charged("THEFT"), """
            word THEFT
            charge 0 4 = 1
            refer 0 3 0 = 2
            refer 1 3 0 = 2
            detail 1 4 = ISE
            detail 0 4 = 1
            """);
        Script.run("he is one no more, nor again in this case", Army.referred("THEFT", 0), """
            detail 0 4 = 1
            detail 0 5 = 2
            challenge 0 4 = 1
            detail 0 4 = ISE
            challenge 0 4 = ISE
            vote 0 4 2 5 = ISE
            challenge 0 5 = 0
            challenge 0 5 = ISE
            withdraw 0
            refer 0 3 0 = 2
            detail 0 4 = ISE
            detail 0 6 = 1
            vote 0 6 2 5
            close 0 = 3
            act 0 3 5
            rehear 0 3 = 5
            refer 0 3 0 = 2
            detail 0 5 = ISE
            """);
        Script.run("without members and votes, withdrawn", Army.voted("THEFT", 0, 20), """
            withdraw 0 = done
            caseIs 0 4 = 0
            caseIs 0 5 = -1
            refer 0 3 0 = 2
            challenge 0 4 = ISE
            detail 0 4 = 1
            close 0 = -1
            """);
    }

    private static void withdrawn() {
        Script.run("CHARGED again, what was told by calls holds", Army.charged("THEFT"), """
            refuse 0
            waive 0
            request 0
            restrain 0 2
            pass 3 = 3
            refer 0 1 0 = 2
            detail 0 4 = 1
            challenge 0 4 = 0
            talk 0 6 5 = false
            talk 0 7 5 = true
            stand 0 1 = false
            withdraw 0 = done
            caseIs 0 2 = 3
            caseIs 0 3 = 3
            punish 0 1 1 = ISE
            place 0 1
            refer 0 1 0 = 2
            detail 0 4 = ISE
            detail 0 9 = 1
            detail 0 5 = 2
            vote 0 5 2 20
            close 0 = -1
            vote 0 9 2 20
            close 0 = 3
            stand 0 0 = true
            restrain 0 0 = 2
            """);
        Script.run("CHARGED again, below the ceiling of a rehearing", Army.acted(), """
            rehear 0 1 = 90
            refer 0 1 0 = 2
            withdraw 0
            caseIs 0 6 = 90
            refer 0 1 1 = 2
            detail 0 4
            detail 0 5
            detail 0 6
            vote 0 4 2 91
            vote 0 5 2 91
            vote 0 6 2 91
            close 0 = 3
            caseIs 0 4 = 90
            """);
    }

    private static void leastMembers() {
        int[] least = {1, 3, 5};
        for (int court = 0; court < 3; court++) {
            String name = "the least members of the court " + court;
            Script.run(name + ", one too few", court("THEFT", court, 0), votes(3, least[court] - 1, 2, 20), "close 0 = -1\ncaseIs 0 0 = 2\n");
            Script.run(name + ", just enough", court("THEFT", court, 0), votes(3, least[court], 2, 20), "close 0 = 3\n");
            Script.run(name + ", one of them tainted", court("THEFT", court, 0), votes(3, least[court], 2, 20), """
                talk 0 1 3 = true
                close 0 = -1
                detail 0 11
                vote 0 11 2 20
                close 0 = 3
                """);
            Script.run(name + ", one of them without a vote", court("THEFT", court, 0), votes(3, least[court], 2, 20), """
                detail 0 11
                close 0 = -1
                vote 0 11 0 0
                """, "close 0 = " + (court == 0 ? 5 : 3));
        }
    }

    private static void men() {
        for (int count = 1; count <= 9; count++) {
            String members = votes(3, count, 2, 20);
            Script.run("men just enough of " + count, court("THEFT", 0, THIRD[count]), "request 0\n", members, "close 0 = 3\n");
            Script.run("men one too few of " + count, court("THEFT", 0, THIRD[count] - 1), "request 0\n", members, "close 0 = -1\ncaseIs 0 0 = 2\n");
        }
        for (int count = 1; count <= 9; count++) {
            Script.run("all men of " + count, court("THEFT", 0, 9), "request 0\n", votes(3, count, 2, 20), "close 0 = 3\n");
        }
        Script.run("no man, if it was not requested", court("THEFT", 0, 0), votes(3, 9, 2, 20), "close 0 = 3\n");
        Script.run("nor a tainted one as a man", court("THEFT", 0, 2), "request 0\n", votes(3, 4, 2, 20), """
            talk 0 5 4 = true
            close 0 = 3
            """);
        Script.run("a tainted man leaves too few", court("THEFT", 0, 2), "request 0\n", votes(3, 5, 2, 20), """
            talk 0 5 4 = true
            close 0 = -1
            talk 0 1 7 = true
            close 0 = 3
            """);
        Script.run("it was requested as the court sat", court("THEFT", 0, 1), votes(4, 3, 2, 20), """
            request 0 = done
            close 0 = -1
            detail 0 3 = 4
            vote 0 3 2 20
            close 0 = -1
            challenge 0 4 = 3
            close 0 = 3
            """);
    }

    private static void taints() {
        Script.run("If one of a rank above that of a member talks to him", """
            person 0 = 0
            person 9 = 1
            person 0 = 2
            person 5 = 3
            person 4 = 4
            person 5 = 5
            person 6 = 6
            status 0 1
            command 0 1
            word THEFT
            charge 0 2 = 0
            talk 0 3 3 = false
            talk 0 4 3 = false
            talk 0 5 3 = false
            talk 0 0 1 = false
            talk 0 6 3 = true
            talk 0 4 3 = true
            talk 0 3 3 = true
            talk 0 1 0 = true
            talk 0 6 5 = true
            """);
        Script.run("his vote does not count", court("THEFT", 0, 0), votes(3, 2, 0, 0), votes(5, 2, 2, 20), """
            talk 0 1 3 = true
            talk 0 1 4 = true
            close 0 = 3
            caseIs 0 5 = 2
            caseIs 0 4 = 20
            sentenceAnew 0 = 20
            """);
        Script.run("a tainted one may vote, and need not", court("THEFT", 0, 0), """
            talk 0 1 3 = true
            detail 0 3 = 1
            detail 0 4 = 2
            vote 0 4 2 7
            vote 0 3 0 0 = done
            close 0 = 3
            """);
        Script.run("what is tainted later does not change that", court("MURDER", 1, 0), votes(3, 3, 2, 150), votes(6, 1, 0, 0), """
            close 0 = 3
            caseIs 0 4 = 150
            talk 0 1 3 = true
            talk 0 1 4 = true
            caseIs 0 0 = 3
            caseIs 0 5 = 2
            caseIs 0 4 = 150
            sentenceAnew 0 = 150
            act 0 1 149
            talk 0 1 5 = true
            sentenceAnew 0 = 150
            rehear 0 1 = 149
            refer 0 1 0 = 2
            detail 0 3 = 1
            vote 0 3 2 1
            close 0 = -1
            """);
    }

    private static void findings() {
        for (int count = 1; count <= 9; count++) {
            int enough = TWO_THIRDS[count];
            Script.run("two thirds voted 2, just enough of " + count, court("DESERTION", 0, 0), votes(3, enough, 2, 20),
                votes(3 + enough, count - enough, 0, 20), "close 0 = 3\ncaseIs 0 5 = 2\n");
            Script.run("two thirds voted 2, one too few of " + count, court("DESERTION", 0, 0), votes(3, enough - 1, 2, 20),
                votes(2 + enough, count - enough + 1, 0, 20), "close 0 = 5\ncaseIs 0 5 = 0\n");
            Script.run("two thirds voted 1 or 2, just enough of " + count, court("DESERTION", 0, 0), votes(3, enough - 1, 2, 20),
                votes(2 + enough, 1, 1, 20), votes(3 + enough, count - enough, 0, 20), "close 0 = 3\ncaseIs 0 5 = 1\n");
            Script.run("two thirds voted 1, one too few of " + count, court("DESERTION", 0, 0), votes(3, enough - 1, 1, 20),
                votes(2 + enough, count - enough + 1, 0, 20), "close 0 = 5\ncaseIs 0 5 = 0\ncaseIs 0 4 = 0\n");
            Script.run("no lesser one, all but just enough of " + count, court("THEFT", 0, 0), votes(3, enough - 1, 2, 20),
                votes(2 + enough, count - enough + 1, 1, 20), "close 0 = 5\ncaseIs 0 5 = 0\n");
        }
        Script.run("the finding of a vote is 0 to 2, the days 0 to 999", Army.referred("THEFT", 0), """
            detail 0 4
            vote 0 4 MIN 0 = IAE
            vote 0 4 -1 0 = IAE
            vote 0 4 3 0 = IAE
            vote 0 4 MAX 0 = IAE
            vote 0 4 0 MIN = IAE
            vote 0 4 0 -1 = IAE
            vote 0 4 0 1000 = IAE
            vote 0 4 0 MAX = IAE
            close 0 = -1
            vote 0 4 0 0 = done
            vote 0 4 1 999 = done
            vote 0 4 2 0 = done
            close 0 = 3
            caseIs 0 4 = 0
            """);
        Script.run("votes again in place of that", Army.voted("DESERTION", 1, 50, 50, 50), """
            vote 0 4 0 10
            vote 0 4 1 30
            vote 0 5 0 0
            vote 0 5 1 40
            close 0 = 3
            caseIs 0 5 = 1
            caseIs 0 4 = 40
            """);
    }

    private static void sentences() {
        for (int count = 1; count <= 9; count++) {
            int enough = TWO_THIRDS[count];
            sentence("two thirds for 20 days, just enough", 0, count, enough, 20, 19, 20);
            sentence("two thirds for 20 days, one too few", 0, count, enough - 1, 20, 19, 19);
        }
        for (int count = 3; count <= 9; count++) {
            int enough = TWO_THIRDS[count];
            int most = THREE_FOURTHS[count];
            sentence("two thirds for exactly 100 days, just enough", 1, count, enough, 100, 99, 100);
            sentence("two thirds for exactly 100 days, one too few", 1, count, enough - 1, 100, 99, 99);
            sentence("three fourths for 101 days, just enough", 1, count, most, 101, 100, 101);
            sentence("three fourths for 101 days, one too few", 1, count, most - 1, 101, 100, 100);
            sentence("three fourths for 180 days, just enough", 1, count, most, 180, 0, 180);
            sentence("three fourths for 180 days, one too few", 1, count, most - 1, 180, 0, most - 1 >= enough ? 100 : 0);
        }
        Script.run("three fourths and two thirds, whatever finding they voted", court("DESERTION", 1, 0), votes(3, 3, 0, 180),
            votes(6, 6, 2, 0), "vote 0 6 2 180\nvote 0 7 2 180\nvote 0 8 2 180\n", """
            close 0 = 3
            caseIs 0 5 = 2
            caseIs 0 4 = 100
            vote 0 9 2 101 = ISE
            """);
    }

    private static void sentence(String title, int court, int members, int some, int days, int others, int due) {
        Script.run(title + " of " + members, court("MURDER", court, 0), votes(3, some, 2, days),
            votes(3 + some, members - some, 2, others), "sentenceAnew 0 = -1\nclose 0 = 3\n",
            "caseIs 0 4 = " + due, "sentenceAnew 0 = " + due);
    }

    private static void greatest() {
        most("the cap of SUMMARY", "MURDER", 0, 2, 31, 30);
        most("just the cap of SUMMARY", "MURDER", 0, 2, 30, 30);
        most("the cap of SPECIAL", "MURDER", 1, 2, 181, 180);
        most("just the cap of SPECIAL", "MURDER", 1, 2, 180, 180);
        most("the cap of GENERAL", "MURDER", 2, 2, 999, 999);
        most("below the cap of GENERAL", "MURDER", 2, 2, 998, 998);
        most("the greatest of ABSENCE", "ABSENCE", 2, 2, 61, 60);
        most("the greatest of DESERTION", "DESERTION", 2, 2, 701, 700);
        most("the greatest of the lesser one of DESERTION", "DESERTION", 2, 1, 61, 60);
        most("the greatest of DISRESPECT", "DISRESPECT", 2, 2, 181, 180);
        most("the greatest of DISOBEYING", "DISOBEYING", 2, 2, 366, 365);
        most("the greatest of the lesser one of DISOBEYING", "DISOBEYING", 2, 1, 181, 180);
        most("the greatest of THEFT", "THEFT", 2, 2, 401, 400);
        most("the greatest of ASSAULT", "ASSAULT", 2, 2, 201, 200);
        most("the greatest of the lesser one of MURDER", "MURDER", 2, 1, 201, 200);
        most("the lesser one of MURDER below the cap", "MURDER", 1, 1, 999, 180);
        for (int ceiling : new int[] {0, 1, 99, 100, 101, 179, 180}) {
            Script.run("the ceiling of " + ceiling, court("MURDER", 1, 0), votes(3, 3, 2, ceiling), """
                close 0 = 3
                """, "act 0 1 " + ceiling, "rehear 0 1 = " + ceiling, "caseIs 0 6 = " + ceiling, "refer 0 1 2 = 2\n",
                votes(3, 5, 2, 999), "close 0 = 3", "caseIs 0 4 = " + ceiling, "sentenceAnew 0 = " + ceiling,
                "act 0 1 " + (ceiling + 1) + " = IAE", "act 0 1 " + ceiling);
        }
        Script.run("a cap below the ceiling", court("MURDER", 1, 0), votes(3, 3, 2, 31), "close 0 = 3\nact 0 1 31\nrehear 0 1 = 31\n",
            "refer 0 1 0 = 2\n", votes(3, 1, 2, 999), "close 0 = 3\ncaseIs 0 4 = 30\nsentenceAnew 0 = 30\n");
        Script.run("the court that was referred to last has the cap", Army.charged("MURDER"), """
            refer 0 3 2 = 2
            withdraw 0
            refer 0 3 0 = 2
            detail 0 4
            vote 0 4 2 999
            close 0 = 3
            caseIs 0 4 = 30
            """);
    }

    private static void most(String title, String word, int court, int finding, int days, int due) {
        Script.run("at most " + title, court(word, court, 0), votes(3, 5, finding, days), "close 0 = 3",
            "caseIs 0 5 = " + finding, "caseIs 0 4 = " + due, "sentenceAnew 0 = " + due);
    }

    private static void action() {
        Script.run("acts on it, days lowered to what they are and one above", Army.voted("THEFT", 0, 25), """
            close 0 = 3
            act 0 3 MIN = IAE
            act 0 3 -1 = IAE
            act 0 3 26 = IAE
            act 0 3 MAX = IAE
            act 0 3 25 = done
            caseIs 0 4 = 25
            left 0 = 25
            """);
        Script.run("acts, days lowered to 0, and once", Army.voted("THEFT", 0, 25), """
            close 0 = 3
            act 0 3 0 = done
            caseIs 0 0 = 4
            caseIs 0 4 = 0
            act 0 3 0 = ISE
            act 0 3 1 = IAE
            appeal 0 3 1 = IAE
            rehear 0 3 = 0
            caseIs 0 6 = 0
            """);
        Script.run("acts, on a sentence of 0 days", Army.voted("THEFT", 0, 0), """
            close 0 = 3
            act 0 3 1 = IAE
            act 0 3 0 = done
            left 0 = 0
            """);
        Script.run("Who referred a TRIED case acts, though no more in the chain", Army.voted("THEFT", 0, 25), """
            close 0 = 3
            command 0 -1
            act 0 3 25 = done
            """);
        Script.run("may lower that on appeal, as often as he likes", Army.acted(), """
            appeal 0 2 MIN = IAE
            appeal 0 2 -1 = IAE
            appeal 0 2 91 = IAE
            appeal 0 2 MAX = IAE
            appeal 0 2 90 = done
            appeal 0 2 90 = done
            appeal 0 3 89 = done
            appeal 0 2 90 = IAE
            appeal 0 2 0 = done
            appeal 0 2 1 = IAE
            appeal 0 2 0 = done
            caseIs 0 0 = 4
            """);
        Script.run("One in his chain, not he himself", Army.acted(), """
            appeal 0 1 90 = ISE
            appeal 0 0 90 = ISE
            appeal 0 4 90 = ISE
            command 2 -1
            appeal 0 3 90 = ISE
            rehear 0 3 = ISE
            appeal 0 2 90 = done
            """);
        Script.run("may order a rehearing, who acted", Army.acted(), "command 0 -1\nrehear 0 1 = 90\n");
        Script.run("may order a rehearing, one in his chain", Army.acted(), "rehear 0 0 = ISE\nrehear 0 4 = ISE\nrehear 0 2 = 90\n");
        Script.run("its ceiling is the sentence as it is then", Army.acted(), """
            appeal 0 2 41
            rehear 0 1 = 41
            caseIs 0 6 = 41
            caseIs 0 4 = 0
            caseIs 0 5 = -1
            left 0 = 0
            sentenceAnew 0 = -1
            appeal 0 2 0 = ISE
            appeal 0 2 1 = IAE
            act 0 1 0 = ISE
            act 0 1 1 = IAE
            """);
        Script.run("left of an ACTED case, the days less the credit", Army.charged("THEFT"), """
            restrain 0 2
            pass 5 = 5
            refer 0 3 0 = 2
            pass 5 = 10
            detail 0 4
            vote 0 4 2 30
            close 0 = 3
            left 0 = 0
            pass 5 = 15
            act 0 3 12
            left 0 = 2
            appeal 0 3 11 = ISE
            rehear 0 3 = 12
            left 0 = 0
            pass 1 = 16
            punish 0 1 12
            left 0 = 1
            setAside 0 2 11
            left 0 = 0
            setAside 0 2 10
            left 0 = 0
            """);
    }

    private static void longRuns() {
        String begin = court("MURDER", 2, 0);
        int calls = 3 + 9 + 2 + 6 + 2;
        String round = "detail 0 3 = 1\nvote 0 3 2 9\nwithdraw 0\nrefer 0 1 2 = 2\n";
        int rounds = (512 - calls) / 4;
        Script.run("512 calls, of a court withdrawn again and again", begin, round.repeat(rounds), "close 0 = -1\n".repeat(512 - calls - 4 * rounds));
        Script.run("512 calls, of one who votes again and again", begin, "detail 0 3 = 1\n", "vote 0 3 2 999\n".repeat(511 - calls));
        Script.run("512 calls, of talks", begin, "talk 0 1 3 = true\n".repeat(512 - calls));
    }

    public static void main(String[] args) {
        powers();
        clocks();
        members();
        withdrawn();
        leastMembers();
        men();
        taints();
        findings();
        sentences();
        greatest();
        action();
        longRuns();
        Script.end();
    }
}
