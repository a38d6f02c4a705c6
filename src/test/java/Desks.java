/** Desks that many tests begin with. */
final class Desks {
    private Desks() {
    }

    /** Machines of kind 0 with this setup time, and members that all took the induction for kind 0 on day 0. */
    static Lendlathe with(int machines, int setup, int members) {
        Lendlathe desk = new Lendlathe();
        for (int i = 0; i < machines; i++) {
            desk.addMachine(0, setup);
        }
        for (int i = 0; i < members; i++) {
            desk.addMember();
            desk.induct(i, 0);
        }
        return desk;
    }

    static void endDays(Lendlathe desk, int days) {
        for (int i = 0; i < days; i++) {
            desk.endDay();
        }
    }

    static Lendlathe onDay(int day) {
        Lendlathe desk = new Lendlathe();
        endDays(desk, day);
        return desk;
    }

    /** A machine of kind 0 and a member, who took the induction for it on the present day. */
    static Lendlathe inductedOnDay(int day) {
        Lendlathe desk = onDay(day);
        desk.addMachine(0, 0);
        desk.addMember();
        desk.induct(0, 0);
        return desk;
    }

    /** A member who took the inductions for all kinds on day 0. */
    static Lendlathe memberOfAllKinds() {
        Lendlathe desk = with(0, 0, 1);
        for (int kind = 1; kind < 4; kind++) {
            desk.induct(0, kind);
        }
        return desk;
    }

    /** On day 1: entries 0 to 5 are done, lapsed, booked, waiting, booked and cancelled; and all else that there is. */
    static Lendlathe busy() {
        Lendlathe desk = with(1, 10, 3);
        desk.addMachine(1, 0);
        desk.addMachine(0, 30);
        desk.induct(1, 1);
        desk.addNeed(2, 3);
        desk.setRate(0, 3);
        desk.addFee(0, 7);
        desk.addDouble(0, 50);
        desk.setRate(1, 5);
        desk.addCap(1, 900);
        desk.addDiscount(1, 10);
        desk.setPrice(0, 9);
        desk.setPrice(1, 50);
        desk.deliver(0, 1000);
        desk.deliver(0, 500);
        desk.deliver(1, 2000);
        desk.book(0, 0, 0, 0, 60, 'a');
        desk.await(1, 0, 0, 30, 60, 'b');
        desk.cut(0, 0, 100);
        desk.endDay();
        desk.breakDown(0, 100);
        desk.pay(0, 50);
        desk.book(0, 0, 1, 0, 60, 'a');
        desk.await(1, 0, 1, 30, 60, 'b');
        desk.book(1, 1, 2, 100, 240, 'c');
        desk.cancel(desk.book(2, 2, 1, 100, 20, 'a'));
        desk.cut(2, 0, 200);
        desk.cut(4, 1, 300);
        return desk;
    }

    /** The minutes of a day as a row of letters, each run of the same letter as its length and the letter. */
    static String minutes(Lendlathe desk, int machine, int day) {
        StringBuilder text = new StringBuilder();
        int length = 0;
        for (int minute = 0; minute < 480; minute++) {
            char letter = desk.minuteAt(machine, day, minute);
            length++;
            if (minute == 479 || desk.minuteAt(machine, day, minute + 1) != letter) {
                text.append(length).append(letter).append(' ');
                length = 0;
            }
        }
        return text.toString().trim();
    }
}
