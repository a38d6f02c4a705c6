/** Desks that many tests begin with. */
final class Desks {
    private Desks() {
    }

    /** Machines of kind 0 with this setup time, and members that all took the induction for kind 0 on day 0. */
    static Lendlathe with(int machines, int setup, int members) {
        Lendlathe desk = new Lendlathe();
        for (int i = 0; i < machines; i++) {
            desk.addMachine(0, setup);
        }
        for (int i = 0; i < members; i++) {
            desk.addMember();
            desk.induct(i, 0);
        }
        return desk;
    }

    static void endDays(Lendlathe desk, int days) {
        for (int i = 0; i < days; i++) {
            desk.endDay();
        }
    }

    /** The minutes of a day as a row of letters, each run of the same letter as its length and the letter. */
    static String minutes(Lendlathe desk, int machine, int day) {
        StringBuilder text = new StringBuilder();
        int length = 0;
        for (int minute = 0; minute < 480; minute++) {
            char letter = desk.minuteAt(machine, day, minute);
            length++;
            if (minute == 479 || desk.minuteAt(machine, day, minute + 1) != letter) {
                text.append(length).append(letter).append(' ');
                length = 0;
            }
        }
        return text.toString().trim();
    }
}
