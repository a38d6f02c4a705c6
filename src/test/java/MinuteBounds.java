/** The boundary cases of the promises 15 to 21 and 40: the minutes of a machine. */
final class MinuteBounds extends Bounds {
    private static final String DAY_RANGE = "Throws `IllegalArgumentException` if the day is out of range";
    private static final String WISH_RANGE =
            "Throws `IllegalArgumentException` if the day, the number of minutes or the work is out of range";

    private interface First {
        int on(Lendlathe desk, int machine, int day, int minutes, char work);
    }

    private MinuteBounds() {
    }

    static void run() {
        minuteAt();
        minuteAtReturns();
        minuteAtPast();
        usedMinutes();
        usedByMinutes();
        setupMinutes();
        first(19, Lendlathe::firstStart,
                "Returns the least start of a free time on a machine, by going through the gaps between booked"
                + " entries.");
        first(20, Lendlathe::firstByMinutes, "Returns the same start, by trying each minute of the day.");
        waiting();
        use();
    }

    /** On machine 0 with this setup: minutes 0 to 9 for 'a', and 10 minutes from a start on for another work. */
    private static Lendlathe twoEntries(int setup, int start, char work) {
        Lendlathe desk = Desks.with(2, setup, 2);
        desk.book(0, 0, 0, 0, 10, 'a');
        desk.book(1, 0, 0, start, 10, work);
        return desk;
    }

    /** The first and the last minute of day 0 are booked. */
    private static Lendlathe edgeMinutes() {
        Lendlathe desk = Desks.with(1, 0, 1);
        desk.book(0, 0, 0, 0, 1, 'a');
        desk.book(0, 0, 0, 479, 1, 'b');
        return desk;
    }

    // ---- promise 15

    private static void minuteAt() {
        sentence(15, "Returns the state of a minute of a machine.");
        takes(() -> twoEntries(10, 30, 'b'), "a booked minute", 'b', desk -> desk.minuteAt(0, 0, 30));
        takes(() -> twoEntries(10, 30, 'b'), "a minute of setup", 's', desk -> desk.minuteAt(0, 0, 29));
        takes(() -> twoEntries(10, 30, 'b'), "a free minute", 'f', desk -> desk.minuteAt(0, 0, 19));

        DayBounds days = new DayBounds(15, false, 's', 'f', (desk, machine, day) -> desk.minuteAt(machine, day, 19));
        days.takesAndRefusesMachines();
        days.takesDays();

        sentence(15, "`minute`: the minute, 0 to 479");
        takes(MinuteBounds::edgeMinutes, "minute 0", 'b', desk -> desk.minuteAt(0, 0, 0));
        takes(MinuteBounds::edgeMinutes, "minute 1", 'f', desk -> desk.minuteAt(0, 0, 1));
        takes(MinuteBounds::edgeMinutes, "minute 478", 'f', desk -> desk.minuteAt(0, 0, 478));
        takes(MinuteBounds::edgeMinutes, "minute 479", 'b', desk -> desk.minuteAt(0, 0, 479));

        days.refusesDays("Throws `IllegalArgumentException` if the day or the minute is out of range");
        refusesOutside(MinuteBounds::edgeMinutes, 0, 479, RANGE, (desk, minute) -> desk.minuteAt(0, 0, minute));
    }

    private static void hasMinutes(String due, Lendlathe desk) {
        Expect.equal("the minutes", due, Desks.minutes(desk, 0, 0));
    }

    private static void minuteAtReturns() {
        sentence(15, "Returns 'b' if a booked or done entry has it; 's' if it is one of the minutes directly before"
                + " such an entry, as many as the setup of this entry and the one before it on the machine and day is,"
                + " and no such entry has it; 'f' otherwise.");
        hasMinutes("480f", Desks.with(1, 30, 1));
        hasMinutes("10b 29f 1s 10b 430f", twoEntries(1, 40, 'b'));
        hasMinutes("10b 30s 10b 430f", twoEntries(30, 40, 'b'));
        hasMinutes("10b 1f 30s 10b 429f", twoEntries(30, 41, 'b'));
        hasMinutes("10b 30f 10b 430f", twoEntries(30, 40, 'a'));
        hasMinutes("20b 460f", twoEntries(30, 10, 'a'));
        hasMinutes("10b 30f 10b 430f", twoEntries(0, 40, 'b'));
        hasMinutes("20b 460f", twoEntries(0, 10, 'b'));
        hasMinutes("10b 430f 30s 10b", twoEntries(30, 470, 'b'));
        hasMinutes("1b 478f 1b", edgeMinutes());
        Lendlathe first = Desks.with(1, 30, 1);
        first.book(0, 0, 0, 100, 10, 'a');
        hasMinutes("100f 10b 370f", first);
        Lendlathe between = twoEntries(10, 100, 'b');
        between.book(0, 0, 0, 50, 10, 'c');
        hasMinutes("10b 30f 10s 10b 30f 10s 10b 370f", between);
        between.cancel(2);
        hasMinutes("10b 80f 10s 10b 370f", between);
        between.cancel(0);
        hasMinutes("100f 10b 370f", between);
    }

    private static void minuteAtPast() {
        Lendlathe desk = twoEntries(10, 100, 'b');
        desk.await(1, 0, 0, 5, 10, 'a');
        desk.book(0, 0, 1, 0, 10, 'c');
        desk.endDay();
        hasMinutes("10b 80f 10s 10b 370f", desk);
        Expect.equal("no setup after another day's entry", "10b 470f", Desks.minutes(desk, 0, 1));
        desk.endDay();
        hasMinutes("10b 80f 10s 10b 370f", desk);
        Lendlathe cancelled = twoEntries(10, 100, 'b');
        cancelled.cancel(1);
        cancelled.endDay();
        hasMinutes("10b 470f", cancelled);
    }

    // ---- promises 16 to 18 and 40

    /** On day 1: day 0 was all taken, one minute of day 1 is, and on day 2 two entries and a setup. */
    private static Lendlathe fullDay() {
        Lendlathe desk = Desks.with(1, 30, 2);
        desk.book(0, 0, 0, 240, 240, 'a');
        desk.book(0, 0, 0, 0, 240, 'a');
        desk.book(0, 0, 1, 479, 1, 'a');
        desk.book(0, 0, 2, 0, 7, 'a');
        desk.book(0, 0, 2, 100, 8, 'b');
        desk.await(1, 0, 0, 0, 240, 'a');
        desk.await(1, 0, 2, 0, 240, 'a');
        desk.cancel(desk.book(1, 0, 3, 0, 240, 'a'));
        desk.endDay();
        return desk;
    }

    private static void usedAre(Object[] dues, Question question) {
        for (int number = 0; number < dues.length; number++) {
            int day = number;
            takes(MinuteBounds::fullDay, "day " + day, dues[day], desk -> question.on(desk, 0, day));
        }
    }

    private static void usedMinutes() {
        sentence(16, "Returns how many minutes of a machine booked and done entries have on a day, by adding their"
                + " lengths.");
        usedAre(new Object[] {480, 1, 15, 0, 0}, Lendlathe::usedMinutes);
        DayBounds days = new DayBounds(16, false, 20, 0, Lendlathe::usedMinutes);
        days.takesAndRefusesMachines();
        days.takesDays();
        days.refusesDays(DAY_RANGE);
    }

    private static void usedByMinutes() {
        sentence(17, "Returns the same number, by going through the day minute by minute.");
        usedAre(new Object[] {480, 1, 15, 0, 0}, Lendlathe::usedByMinutes);
        DayBounds days = new DayBounds(17, false, 20, 0, Lendlathe::usedByMinutes);
        days.takesAndRefusesMachines();
        days.takesDays();
        days.refusesDays(DAY_RANGE);
    }

    private static void use() {
        sentence(40, "Returns the share of a day that a machine is used.");
        takes(MinuteBounds::fullDay, "all of it", 1.0f, desk -> desk.use(0, 0));
        takes(MinuteBounds::fullDay, "nothing of it", 0.0f, desk -> desk.use(0, 3));

        sentence(40, "Returns the number of minutes that booked and done entries have, divided by 480, both converted"
                + " to float.");
        usedAre(new Object[] {1.0f, 1 / 480.0f, 15 / 480.0f, 0.0f, 0.0f}, Lendlathe::use);
        for (int number = 1; number <= 240; number++) {
            int minutes = number;
            takes(() -> Desks.with(1, 0, 1), minutes + " minutes", (float) minutes / (float) 480, desk -> {
                desk.book(0, 0, 0, 0, minutes, 'a');
                return desk.use(0, 0);
            });
        }
        DayBounds days = new DayBounds(40, false, 20 / 480.0f, 0.0f, Lendlathe::use);
        days.takesAndRefusesMachines();
        days.takesDays();
        days.refusesDays(DAY_RANGE);
    }

    private static void setupMinutes() {
        sentence(18, "Returns the number of minutes of a machine that have the state 's' on a day, by going from one"
                + " entry to the next.");
        takes(() -> Desks.with(1, 30, 0), "no entry", 0, desk -> desk.setupMinutes(0, 0));
        takes(() -> twoEntries(30, 40, 'b'), "the greatest setup", 30, desk -> desk.setupMinutes(0, 0));
        takes(() -> twoEntries(1, 40, 'b'), "the least setup", 1, desk -> desk.setupMinutes(0, 0));
        takes(() -> twoEntries(0, 40, 'b'), "no setup", 0, desk -> desk.setupMinutes(0, 0));
        takes(() -> twoEntries(30, 40, 'a'), "the same work", 0, desk -> desk.setupMinutes(0, 0));
        takes(() -> twoEntries(30, 40, 'b'), "after the day", 30, desk -> {
            desk.endDay();
            return desk.setupMinutes(0, 0);
        });
        takes(() -> twoEntries(10, 100, 'b'), "one between them", 20, desk -> {
            desk.book(0, 0, 0, 50, 10, 'c');
            return desk.setupMinutes(0, 0);
        });
        takes(() -> twoEntries(10, 100, 'b'), "the first is cancelled", 0, desk -> {
            desk.cancel(0);
            return desk.setupMinutes(0, 0);
        });
        takes(() -> twoEntries(10, 100, 'b'), "the next day's first entry", 0, desk -> {
            desk.book(0, 0, 1, 100, 10, 'a');
            return desk.setupMinutes(0, 1);
        });
        DayBounds days = new DayBounds(18, false, 10, 0, Lendlathe::setupMinutes);
        days.takesAndRefusesMachines();
        days.takesDays();
        days.refusesDays(DAY_RANGE);
    }

    // ---- promises 19 and 20

    private static void first(int promise, First first, String returns) {
        sentence(promise, returns);
        takes(() -> Desks.with(1, 30, 1), "an empty day", 0, desk -> first.on(desk, 0, 0, 240, 'a'));
        takes(() -> twoEntries(10, 20, 'a'), "a gap that is just enough", 10, desk -> first.on(desk, 0, 0, 10, 'a'));
        takes(() -> twoEntries(10, 20, 'a'), "a gap too short by 1", 30, desk -> first.on(desk, 0, 0, 11, 'a'));
        takes(() -> twoEntries(10, 40, 'a'), "room for two setups", 20, desk -> first.on(desk, 0, 0, 10, 'b'));
        takes(() -> twoEntries(10, 40, 'a'), "too little for them", 60, desk -> first.on(desk, 0, 0, 11, 'b'));
        takes(() -> twoEntries(10, 40, 'b'), "room for one setup", 10, desk -> first.on(desk, 0, 0, 20, 'a'));
        takes(() -> twoEntries(10, 40, 'b'), "too little for it", 60, desk -> first.on(desk, 0, 0, 21, 'a'));
        takes(() -> twoEntries(10, 40, 'b'), "the other setup", 20, desk -> first.on(desk, 0, 0, 20, 'b'));
        takes(() -> twoEntries(10, 40, 'b'), "too little for it", 50, desk -> first.on(desk, 0, 0, 21, 'b'));
        takes(() -> lateEntry('a'), "before the first entry", 0, desk -> first.on(desk, 0, 0, 30, 'a'));
        takes(() -> lateEntry('a'), "too long for that", 40, desk -> first.on(desk, 0, 0, 31, 'a'));
        takes(() -> lateEntry('b'), "before it, with its setup", 0, desk -> first.on(desk, 0, 0, 20, 'a'));
        takes(() -> lateEntry('b'), "too long for that", 50, desk -> first.on(desk, 0, 0, 21, 'a'));
        takes(MinuteBounds::fullDay, "waiting and cancelled entries", 0, desk -> first.on(desk, 0, 3, 240, 'b'));

        DayBounds days = new DayBounds(promise, true, 40, 0,
                (desk, machine, day) -> first.on(desk, machine, day, 10, 'a'));
        days.takesAndRefusesMachines();
        days.takesDays();
        firstTakes(promise, first);
        days.refusesDays(WISH_RANGE);
        refusesOutside(() -> Desks.with(1, 0, 1), 1, 240, RANGE,
                (desk, minutes) -> first.on(desk, 0, 0, minutes, 'a'));
        for (char work : NO_WORKS) {
            refuses(() -> Desks.with(1, 0, 1), "work " + (int) work, RANGE, desk -> first.on(desk, 0, 0, 1, work));
        }
        firstRefuses(promise, first);
    }

    /** Minutes 30 to 39 are booked on a machine with a setup of 10. */
    private static Lendlathe lateEntry(char work) {
        Lendlathe desk = Desks.with(1, 10, 1);
        desk.book(0, 0, 0, 30, 10, work);
        return desk;
    }

    private static void firstTakes(int promise, First first) {
        sentence(promise, "`minutes`: the number of minutes, 1 to 240");
        takes(() -> twoEntries(0, 11, 'a'), "1 minute", 10, desk -> first.on(desk, 0, 0, 1, 'a'));
        takes(() -> twoEntries(0, 11, 'a'), "2 minutes", 21, desk -> first.on(desk, 0, 0, 2, 'a'));
        takes(() -> twoEntries(0, 230, 'a'), "240 minutes", 240, desk -> first.on(desk, 0, 0, 240, 'a'));

        sentence(promise, "`work`: the work, 'a', 'b' or 'c'");
        takes(() -> twoEntries(10, 20, 'a'), "a", 10, desk -> first.on(desk, 0, 0, 10, 'a'));
        takes(() -> twoEntries(10, 20, 'a'), "b", 40, desk -> first.on(desk, 0, 0, 10, 'b'));
        takes(() -> twoEntries(10, 20, 'a'), "c", 40, desk -> first.on(desk, 0, 0, 10, 'c'));
    }

    /** Day 0 is taken but for some minutes at its end, and the work there before is 'a'. */
    private static Lendlathe lastMinutes(int setup, int minutes) {
        Lendlathe desk = Desks.with(1, setup, 1);
        desk.book(0, 0, 0, 0, 240, 'a');
        desk.book(0, 0, 0, 240, 240 - minutes, 'a');
        return desk;
    }

    private static void firstRefuses(int promise, First first) {
        sentence(promise, "Throws `NoSuchElementException` if there is none");
        refuses(() -> lastMinutes(0, 0), "a full day", ELEMENT, desk -> first.on(desk, 0, 0, 1, 'a'));
        takes(() -> lastMinutes(0, 1), "the last minute", 479, desk -> first.on(desk, 0, 0, 1, 'a'));
        refuses(() -> lastMinutes(0, 1), "one minute more", ELEMENT, desk -> first.on(desk, 0, 0, 2, 'a'));
        takes(() -> lastMinutes(0, 100), "the last minutes", 380, desk -> first.on(desk, 0, 0, 100, 'a'));
        refuses(() -> lastMinutes(0, 100), "one minute more", ELEMENT, desk -> first.on(desk, 0, 0, 101, 'a'));
        takes(() -> lastMinutes(30, 100), "the last minutes", 410, desk -> first.on(desk, 0, 0, 70, 'b'));
        refuses(() -> lastMinutes(30, 100), "one minute more", ELEMENT, desk -> first.on(desk, 0, 0, 71, 'b'));
        refuses(() -> lastMinutes(30, 30), "setup up to the end", ELEMENT, desk -> first.on(desk, 0, 0, 1, 'b'));
        takes(() -> twoEntries(30, 470, 'a'), "one great gap", 40, desk -> first.on(desk, 0, 0, 240, 'b'));
        refuses(MinuteBounds::twoGaps, "two gaps, each too short", ELEMENT, desk -> first.on(desk, 0, 0, 240, 'b'));
    }

    private static Lendlathe twoGaps() {
        Lendlathe desk = twoEntries(30, 470, 'a');
        desk.book(0, 0, 0, 240, 1, 'a');
        return desk;
    }

    // ---- promise 21

    /** Machine 0 is booked on the days 0 and 1; a number of entries waits for day 0, and one for day 1. */
    private static Lendlathe withWaiting(int waiting) {
        Lendlathe desk = Desks.with(2, 0, 2);
        desk.book(0, 0, 0, 0, 60, 'a');
        desk.book(0, 0, 1, 0, 60, 'a');
        desk.await(1, 0, 1, 0, 60, 'a');
        for (int i = 0; i < waiting; i++) {
            desk.await(1, 0, 0, 0, 60, 'a');
        }
        return desk;
    }

    private static void waiting() {
        sentence(21, "Returns the number of waiting entries for a machine and a day.");
        takes(() -> withWaiting(0), "none", 0, desk -> desk.waiting(0, 0));
        takes(() -> withWaiting(1), "one", 1, desk -> desk.waiting(0, 0));
        takes(() -> withWaiting(147), "as many as there can be", 147, desk -> desk.waiting(0, 0));
        takes(() -> withWaiting(147), "another day", 1, desk -> desk.waiting(0, 1));
        takes(() -> withWaiting(147), "a day without entries", 0, desk -> desk.waiting(0, 2));
        takes(() -> withWaiting(147), "another machine", 0, desk -> desk.waiting(1, 0));
        takes(() -> withWaiting(2), "one of them is cancelled", 1, desk -> {
            desk.cancel(4);
            return desk.waiting(0, 0);
        });
        takes(() -> withWaiting(2), "one of them is booked", 1, desk -> {
            desk.cancel(0);
            return desk.waiting(0, 0);
        });
        takes(() -> withWaiting(2), "those of the day before have lapsed", 1, desk -> {
            desk.endDay();
            return desk.waiting(0, 1);
        });
        DayBounds days = new DayBounds(21, true, 1, 0, Lendlathe::waiting);
        days.takesAndRefusesMachines();
        days.takesDays();
        days.refusesDays(DAY_RANGE);
    }
}
