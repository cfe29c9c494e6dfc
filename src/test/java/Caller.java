/** Makes a call of a MartialHall by its name and tells the answer as a text, an exception by its short name. */
final class Caller {
    static final String DONE = "done";

    private Caller() {
    }

    static String answer(MartialHall hall, String name, int... a) {
        try {
            return String.valueOf(call(hall, name, a));
        } catch (RuntimeException e) {
            return shortName(e);
        }
    }

    static boolean isException(String answer) {
        return answer.equals("IOOBE") || answer.equals("IAE") || answer.equals("ISE");
    }

    /** All that can be asked without changing anything, to see that a call that throws changes nothing. */
    static String picture(MartialHall hall, int today) {
        StringBuilder picture = new StringBuilder();
        for (int person = 0; person < 13; person++) {
            picture.append(answer(hall, "isUnder", person)).append(' ');
            for (int day = 0; day <= today + 1; day++) {
                picture.append(answer(hall, "statusOn", person, day)).append(' ');
            }
            for (int by = 0; by < 12; by++) {
                picture.append(answer(hall, "isInChain", person, by)).append(' ');
            }
        }
        for (int number = 0; number < 21; number++) {
            for (int what = 0; what < 9; what++) {
                picture.append(answer(hall, "caseIs", number, what)).append(' ');
            }
            picture.append(answer(hall, "left", number)).append(' ');
            picture.append(answer(hall, "sentenceAnew", number)).append('\n');
        }
        return picture.toString();
    }

    // Only the very exceptions of the document, thrown by the class itself, have short names: what the machine or a
    // list throws is no due answer.
    private static String shortName(RuntimeException e) {
        StackTraceElement[] trace = e.getStackTrace();
        if (trace.length == 0 || !trace[0].getClassName().startsWith("MartialHall")) {
            return "by the machine: " + e;
        }
        if (e.getClass() == IndexOutOfBoundsException.class) {
            return "IOOBE";
        }
        if (e.getClass() == IllegalArgumentException.class) {
            return "IAE";
        }
        if (e.getClass() == IllegalStateException.class) {
            return "ISE";
        }
        return e.toString();
    }

    private static Object call(MartialHall hall, String name, int[] a) {
        switch (name) {
            case "person": return hall.person(a[0]);
            case "statusOn": return hall.statusOn(a[0], a[1]);
            case "isUnder": return hall.isUnder(a[0]);
            case "isInChain": return hall.isInChain(a[0], a[1]);
            case "pass": return hall.pass(a[0]);
            case "type": return hall.type((char) a[0]);
            case "charge": return hall.charge(a[0], a[1]);
            case "caseIs": return hall.caseIs(a[0], a[1]);
            case "left": return hall.left(a[0]);
            case "stand": return hall.stand(a[0], a[1] != 0);
            case "restrain": return hall.restrain(a[0], a[1]);
            case "refer": return hall.refer(a[0], a[1], a[2]);
            case "detail": return hall.detail(a[0], a[1]);
            case "challenge": return hall.challenge(a[0], a[1]);
            case "talk": return hall.talk(a[0], a[1], a[2]);
            case "close": return hall.close(a[0]);
            case "sentenceAnew": return hall.sentenceAnew(a[0]);
            case "rehear": return hall.rehear(a[0], a[1]);
            default: return callWithoutAnswer(hall, name, a);
        }
    }

    private static Object callWithoutAnswer(MartialHall hall, String name, int[] a) {
        switch (name) {
            case "status": hall.status(a[0], a[1]); break;
            case "command": hall.command(a[0], a[1]); break;
            case "place": hall.place(a[0] != 0, a[1] != 0); break;
            case "waive": hall.waive(a[0]); break;
            case "refuse": hall.refuse(a[0]); break;
            case "punish": hall.punish(a[0], a[1], a[2]); break;
            case "setAside": hall.setAside(a[0], a[1], a[2]); break;
            case "withdraw": hall.withdraw(a[0]); break;
            case "request": hall.request(a[0]); break;
            case "vote": hall.vote(a[0], a[1], a[2], a[3]); break;
            case "act": hall.act(a[0], a[1], a[2]); break;
            case "appeal": hall.appeal(a[0], a[1], a[2]); break;
            default: throw new UnsupportedOperationException("no such call: " + name);
        }
        return DONE;
    }
}
