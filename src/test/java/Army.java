/** The beginnings that many scripts share. */
final class Army {
    /** The man 0 under 1 (rank 6), 2 (rank 8), 3 (rank 9); officers 4 to 8, men 9 and 10; 11 is of the lowest rank. */
    static final String ARMY = """
        person 1 = 0
        person 6 = 1
        person 8 = 2
        person 9 = 3
        person 4 = 4
        person 5 = 5
        person 5 = 6
        person 7 = 7
        person 7 = 8
        person 2 = 9
        person 3 = 10
        person 0 = 11
        status 0 1
        command 0 1
        command 1 2
        command 2 3
        """;

    static String charged(String word) {
        return ARMY + "word " + word + "\ncharge 0 11 = 0\n";
    }

    /** Case 0 before a court, referred by 3. */
    static String referred(String word, int court) {
        return charged(word) + "refer 0 3 " + court + " = 2\n";
    }

    /** Case 0 before a court referred by 3, whose members 4, 5 and so on vote 2 and the days told. */
    static String voted(String word, int court, int... days) {
        StringBuilder script = new StringBuilder(referred(word, court));
        for (int i = 0; i < days.length; i++) {
            script.append("detail 0 ").append(4 + i).append(" = ").append(i + 1).append('\n');
            script.append("vote 0 ").append(4 + i).append(" 2 ").append(days[i]).append('\n');
        }
        return script.toString();
    }

    /** Case 0, referred by 1, tried with 100 days and acted on. */
    static String acted() {
        return charged("DESERTION") + """
            refer 0 1 1 = 2
            detail 0 4
            detail 0 5
            detail 0 6
            vote 0 4 2 100
            vote 0 5 2 100
            vote 0 6 2 100
            close 0 = 3
            act 0 1 90
            """;
    }

    private Army() {
    }
}
