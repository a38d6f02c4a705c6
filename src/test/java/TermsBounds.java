/** The boundary cases of the section "Terms", from its beginning to the paragraph "Booking". */
final class TermsBounds extends Bounds {
    private static final int TERMS = Sentences.TERMS;

    private TermsBounds() {
    }

    static void run() {
        questionsOnlyAsk();
        onlyWithInduction();
        days();
        machinesAndMembers();
        inductions();
        lives();
        entries();
        states();
        overlaps();
        overlapsByDay();
        setup();
        freeTimes();
        freeTimesBetween();
        canBeBooked();
        waitingEntries();
        waitingEntriesInOrder();
    }

    // ---- the opening sentences, days, machines and members

    private static void questionsOnlyAsk() {
        sentence(TERMS, "Its calls are what members ask for and the end of each day; all other calls ask.");
        asks(Desks::busy, "all questions", desk -> {
            desk.day();
            desk.isLive(0, 0, 1);
            desk.check(0, 0, 1, 200, 60, 'a');
            desk.stateOf(3);
            desk.entries();
            desk.minuteAt(0, 1, 0);
            desk.usedMinutes(0, 1);
            desk.usedByMinutes(0, 1);
            desk.setupMinutes(0, 1);
            desk.firstStart(0, 1, 10, 'b');
            desk.firstByMinutes(0, 1, 10, 'b');
            desk.waiting(0, 1);
            desk.freeOf(0);
            desk.freeByCuts(0);
            desk.costOf(0, 60);
            desk.shareOf(0, 0);
            desk.owes(0);
            desk.owesByEntries(0);
            desk.dueOf(0);
            desk.takings();
            desk.use(0, 1);
            desk.meanMinutes();
            return desk.isSound();
        });
    }

    private static void onlyWithInduction() {
        sentence(TERMS, "Nobody is booked on a machine without a live induction.");
        refuses(() -> newMember(0), "a new member", SUPPORT, desk -> desk.book(0, 0, 0, 0, 1, 'a'));
        takes(() -> newMember(1), "a member with the induction", 0, desk -> desk.book(0, 0, 0, 0, 1, 'a'));
        takes(() -> newMember(1), "one that lost it", 'c', desk -> {
            desk.book(0, 0, 0, 0, 1, 'a');
            desk.addNeed(0, 1);
            return desk.stateOf(0);
        });
        takes(() -> newMember(2), "one that has the new need, too", 'b', desk -> {
            desk.book(0, 0, 0, 0, 1, 'a');
            desk.addNeed(0, 1);
            return desk.stateOf(0);
        });
    }

    /** A machine of kind 0, and a member with the inductions for so many kinds. */
    private static Lendlathe newMember(int kinds) {
        Lendlathe desk = Desks.with(1, 0, 0);
        desk.addMember();
        for (int kind = 0; kind < kinds; kind++) {
            desk.induct(0, kind);
        }
        return desk;
    }

    private static void days() {
        sentence(TERMS, "Days are numbered from 0; it is day 0 at first.");
        takes(Lendlathe::new, "the first day", 0, Lendlathe::day);
        takes(() -> Desks.onDay(1), "the second day", 1, Lendlathe::day);
        takes(() -> Desks.with(1, 0, 1), "day 0", 0, desk -> desk.book(0, 0, 0, 0, 1, 'a'));
        refuses(() -> Desks.with(1, 0, 1), "day -1", RANGE, desk -> desk.book(0, 0, -1, 0, 1, 'a'));
        refuses(() -> Desks.with(1, 0, 1), "day -1", RANGE, desk -> desk.usedMinutes(0, -1));

        sentence(TERMS, "A day has the minutes 0 to 479.");
        takes(() -> Desks.with(1, 0, 1), "minute 0", 0, desk -> desk.book(0, 0, 0, 0, 1, 'a'));
        takes(() -> Desks.with(1, 0, 1), "minute 479", 0, desk -> desk.book(0, 0, 0, 479, 1, 'a'));
        refuses(() -> Desks.with(1, 0, 1), "minute -1", RANGE, desk -> desk.book(0, 0, 0, -1, 1, 'a'));
        refuses(() -> Desks.with(1, 0, 1), "minute 480", RANGE, desk -> desk.book(0, 0, 0, 480, 1, 'a'));
        refuses(() -> Desks.with(1, 0, 1), "minute -1", RANGE, desk -> desk.minuteAt(0, 0, -1));
        refuses(() -> Desks.with(1, 0, 1), "minute 480", RANGE, desk -> desk.minuteAt(0, 0, 480));
        takes(() -> Desks.with(1, 0, 1), "all of them", 480, desk -> {
            desk.book(0, 0, 0, 0, 240, 'a');
            desk.book(0, 0, 0, 240, 240, 'a');
            return desk.usedByMinutes(0, 0);
        });
    }

    private static void machinesAndMembers() {
        sentence(TERMS, "At most 6 machines and at most 10 members have the numbers 0, 1, 2 and so on.");
        Lendlathe desk = new Lendlathe();
        for (int number = 0; number < 10; number++) {
            int due = number;
            Expect.equal("addMember", due, desk.addMember());
            Expect.raises("the next member", INDEX, () -> desk.owes(due + 1));
            if (due < 6) {
                Expect.equal("addMachine", due, desk.addMachine(due % 4, 0));
                Expect.raises("the next machine", INDEX, () -> desk.usedMinutes(due + 1, 0));
            }
        }
        refuses(() -> Desks.with(6, 0, 10), "a machine more", STATE, one -> one.addMachine(0, 0));
        refuses(() -> Desks.with(6, 0, 10), "a member more", STATE, Lendlathe::addMember);
        takes(() -> Desks.with(6, 0, 9), "6 machines leave room for members", 9, Lendlathe::addMember);
        takes(() -> Desks.with(5, 0, 10), "10 members leave room for machines", 5, one -> one.addMachine(0, 0));

        sentence(TERMS, "A machine has a kind, 0 to 3, and a setup time in minutes.");
        for (int number = 0; number < 4; number++) {
            int kind = number;
            takes(Desks::memberOfAllKinds, "kind " + kind, 0, one -> one.addMachine(kind, 0));
            takes(Desks::memberOfAllKinds, "the tariff of kind " + kind, 10 + kind, one -> {
                one.addMachine(kind, 0);
                one.setRate(kind, 10 + kind);
                one.book(0, 0, 0, 0, 1, 'a');
                one.endDay();
                return one.dueOf(0);
            });
        }
        takes(() -> withSetup(0), "no setup time", 10, one -> one.firstStart(0, 0, 1, 'b'));
        takes(() -> withSetup(30), "the greatest setup time", 40, one -> one.firstStart(0, 0, 1, 'b'));
    }

    /** Minutes 0 to 9 of the first machine are booked for 'a'; the other machine has another setup time. */
    private static Lendlathe withSetup(int setup) {
        Lendlathe desk = Desks.with(1, setup, 2);
        desk.addMachine(0, 15);
        desk.book(0, 0, 0, 0, 10, 'a');
        return desk;
    }

    // ---- inductions

    private static void inductions() {
        sentence(TERMS, "There is one induction for each kind.");
        for (int kind = 0; kind < 4; kind++) {
            Lendlathe desk = Desks.with(0, 0, 0);
            desk.addMember();
            desk.induct(0, kind);
            for (int other = 0; other < 4; other++) {
                Expect.equal("live of kind " + other, other == kind, desk.isLive(0, other, 0));
            }
        }

        sentence(TERMS, "An induction can need inductions for other kinds.");
        Lendlathe desk = Desks.memberOfAllKinds();
        for (int other = 0; other < 3; other++) {
            Expect.equal("a need more", true, desk.addNeed(3, other));
        }
        desk.addMember();
        for (int kind = 0; kind < 3; kind++) {
            Expect.raises("all three are needed", SUPPORT, () -> desk.induct(1, 3));
            desk.induct(1, kind);
        }
        Expect.equal("with all three", -1, desk.induct(1, 3));
        refuses(Lendlathe::new, "its own kind", RANGE, one -> one.addNeed(3, 3));

        sentence(TERMS, "A member takes an induction on a day; to take it again makes its life longer.");
        for (int days : new int[] {0, 1, 28, 29, 30}) {
            Lendlathe again = Desks.with(0, 0, 1);
            Desks.endDays(again, days);
            Expect.equal("live before", days <= 29, again.isLive(0, 0, days));
            Expect.equal("taken again", days, again.induct(0, 0));
            Expect.equal("live for 29 days more", true, again.isLive(0, 0, days + 29));
            Expect.equal("live for 30 days more", false, again.isLive(0, 0, days + 30));
        }
    }

    private static void lives() {
        sentence(TERMS, "An induction of a member is live on a day if the member took it on this day or on one of the"
                + " 29 days before, and each induction that it needs is live on this day for this member, too.");
        Lendlathe desk = Desks.with(0, 0, 2);
        for (int day = 0; day < 35; day++) {
            Expect.equal("day " + day, day <= 29, desk.isLive(0, 0, day));
        }
        desk.endDay();
        desk.induct(0, 1);
        desk.induct(1, 1);
        desk.endDay();
        desk.induct(0, 2);
        desk.addNeed(2, 1);
        Expect.equal("the need's last day", true, desk.isLive(0, 2, 30));
        Expect.equal("the day after it", false, desk.isLive(0, 2, 31));
        desk.addNeed(1, 0);
        Expect.equal("the last day of the need's need", true, desk.isLive(0, 2, 29));
        Expect.equal("the day after it", false, desk.isLive(0, 2, 30));
        desk.induct(0, 0);
        Expect.equal("the need's need was taken again", true, desk.isLive(0, 2, 30));
        Expect.equal("the need itself was not", false, desk.isLive(0, 2, 31));
        Expect.equal("another member's induction", false, desk.isLive(1, 1, 30));
        desk.addNeed(2, 3);
        Expect.equal("each need counts", false, desk.isLive(0, 2, 2));
        desk.induct(0, 3);
        Expect.equal("and each is there", true, desk.isLive(0, 2, 30));
    }

    // ---- entries

    private static Lendlathe withEntries(int entries) {
        Lendlathe desk = Desks.with(1, 0, 1);
        for (int i = 0; i < entries; i++) {
            desk.book(0, 0, 0, i, 1, 'a');
        }
        return desk;
    }

    private static void entries() {
        sentence(TERMS, "At most 150 entries have the numbers 0, 1, 2 and so on.");
        for (int number : new int[] {0, 1, 149}) {
            takes(() -> withEntries(number), "book", number, desk -> desk.book(0, 0, 0, 200, 1, 'a'));
        }
        takes(() -> withEntries(149), "await", 149, desk -> desk.await(0, 0, 0, 0, 1, 'a'));
        refuses(() -> withEntries(150), "book", STATE, desk -> desk.book(0, 0, 0, 200, 1, 'a'));
        refuses(() -> withEntries(150), "await", STATE, desk -> desk.await(0, 0, 0, 0, 1, 'a'));
        refuses(() -> withEntries(150), "entry 150", ELEMENT, desk -> desk.stateOf(150));

        sentence(TERMS, "An entry is for a member, a machine, a day, a number of minutes that follow one another, from"
                + " the start on, and a work, one of the characters 'a', 'b' and 'c'.");
        Lendlathe desk = Desks.with(2, 10, 2);
        desk.setRate(0, 1);
        desk.book(1, 1, 2, 100, 7, 'b');
        Expect.equal("its machine, day and minutes", "100f 7b 373f", Desks.minutes(desk, 1, 2));
        Expect.equal("not another machine", 0, desk.usedMinutes(0, 2));
        Expect.equal("its work", 107, desk.firstStart(1, 2, 200, 'b'));
        Expect.equal("not another work", 117, desk.firstStart(1, 2, 200, 'a'));
        Expect.equal("not another work", 117, desk.firstStart(1, 2, 200, 'c'));
        Desks.endDays(desk, 3);
        Expect.equal("its member", 7, desk.owes(1));
        for (char work : new char[] {'a', 'b', 'c'}) {
            takes(() -> Desks.with(1, 0, 1), "work " + work, 0, one -> one.book(0, 0, 0, 0, 1, work));
        }
        for (char work : NO_WORKS) {
            refuses(() -> Desks.with(1, 0, 1), "work " + (int) work, RANGE, one -> one.book(0, 0, 0, 0, 1, work));
        }
    }

    private static void states() {
        sentence(TERMS, "An entry is waiting, booked, cancelled, done or lapsed.");
        String states = "dxbwbc";
        for (int number = 0; number < 6; number++) {
            int entry = number;
            takes(Desks::busy, "entry " + entry, states.charAt(entry), desk -> desk.stateOf(entry));
        }
    }

    /** Of member 0, on the first of two machines: minutes 100 to 149 of day 1. */
    private static Lendlathe oneEntry(int setup) {
        Lendlathe desk = Desks.with(2, setup, 2);
        desk.book(0, 0, 1, 100, 50, 'a');
        return desk;
    }

    /** Whether a time overlaps the entry, asked for its member, for its machine, and for an entry that waits. */
    private static void overlap(boolean isDue, int day, int start, int minutes) {
        String time = minutes + " minutes from " + start + " of day " + day;
        takes(() -> oneEntry(0), time + " for the member", isDue ? 'm' : 'o',
                desk -> desk.check(0, 1, day, start, minutes, 'a'));
        takes(() -> oneEntry(0), time + " on the machine", isDue ? 't' : 'o',
                desk -> desk.check(1, 0, day, start, minutes, 'a'));
    }

    private static void overlaps() {
        sentence(TERMS, "Two entries overlap if they are for the same day and have a minute in common.");
        overlap(false, 1, 99, 1);
        overlap(false, 1, 50, 50);
        overlap(true, 1, 50, 51);
        overlap(true, 1, 100, 1);
        overlap(true, 1, 100, 50);
        overlap(true, 1, 99, 52);
        overlap(true, 1, 120, 1);
        overlap(true, 1, 149, 1);
        overlap(true, 1, 149, 240);
        overlap(false, 1, 150, 1);
        overlap(false, 1, 150, 240);
        overlap(true, 1, 0, 240);
        overlap(false, 1, 0, 100);
    }

    private static void overlapsByDay() {
        overlap(false, 0, 100, 50);
        overlap(false, 2, 100, 50);
        overlap(false, 0, 479, 1);
        overlap(false, 2, 0, 240);
        takes(() -> oneEntry(0), "another member on another machine", 'o', desk -> desk.check(1, 1, 1, 100, 50, 'a'));
    }

    // ---- setup and booking

    private static void setup() {
        sentence(TERMS, "The setup of two entries for the same machine is the setup time of the machine if their works"
                + " differ, and 0 otherwise.");
        char[] works = {'a', 'b', 'c'};
        for (char first : works) {
            for (char second : works) {
                for (int setup : new int[] {0, 1, 30}) {
                    Lendlathe desk = Desks.with(1, setup, 1);
                    desk.book(0, 0, 0, 0, 10, first);
                    int due = first == second ? 0 : setup;
                    Expect.equal("the first start", 10 + due, desk.firstStart(0, 0, 10, second));
                    desk.book(0, 0, 0, 100, 10, second);
                    Expect.equal("the setup minutes", due, desk.setupMinutes(0, 0));
                }
            }
        }
        takes(() -> withSetup(30), "another machine's entry", 'o', desk -> desk.check(1, 1, 0, 10, 1, 'b'));
    }

    private static void free(char due, int setup, int start, int minutes, char work) {
        takes(() -> oneEntry(setup), minutes + " minutes from " + start + " for " + work, due,
                desk -> desk.check(1, 0, 1, start, minutes, work));
    }

    private static void freeTimes() {
        sentence(TERMS, "The time of an entry is free if no booked entry for the same machine overlaps it, the last"
                + " booked entry for the same machine and day that ends before it starts, if there is one, ends at"
                + " least as many minutes before its start as the setup of both is, and the first booked entry for the"
                + " same machine and day that starts after its end, if there is one, starts at least as many minutes"
                + " after its end as the setup of both is.");
        free('t', 30, 120, 10, 'a');
        free('t', 30, 179, 10, 'b');
        free('o', 30, 180, 10, 'b');
        free('t', 30, 61, 10, 'b');
        free('o', 30, 60, 10, 'b');
        free('o', 30, 0, 70, 'b');
        free('t', 30, 0, 71, 'b');
        free('o', 30, 150, 10, 'a');
        free('o', 30, 90, 10, 'a');
        free('t', 30, 91, 10, 'a');
        free('t', 30, 149, 10, 'a');
        free('o', 0, 150, 10, 'b');
        free('o', 0, 90, 10, 'b');
        takes(() -> oneEntry(30), "the day before", 'o', desk -> desk.check(1, 0, 0, 150, 10, 'b'));
        takes(() -> oneEntry(30), "the day after", 'o', desk -> desk.check(1, 0, 2, 90, 10, 'b'));
        takes(() -> oneEntry(30), "a cancelled entry", 'o', desk -> {
            desk.cancel(0);
            return desk.check(1, 0, 1, 120, 10, 'b');
        });
        takes(() -> oneEntry(30), "a waiting entry", 'o', desk -> {
            desk.await(1, 0, 1, 149, 100, 'a');
            return desk.check(1, 0, 1, 240, 10, 'b');
        });
    }

    /** Minutes 0 to 9 and 10 to 19 for 'a', 100 to 109 for 'b' and 120 to 129 for 'c'; the setup time is 10. */
    private static Lendlathe fourEntries() {
        Lendlathe desk = Desks.with(1, 10, 1);
        desk.book(0, 0, 0, 120, 10, 'c');
        desk.book(0, 0, 0, 100, 10, 'b');
        desk.book(0, 0, 0, 10, 10, 'a');
        desk.book(0, 0, 0, 0, 10, 'a');
        return desk;
    }

    private static void freeTimesBetween() {
        takes(TermsBounds::fourEntries, "as far as both setups ask", 'o', desk -> desk.check(0, 0, 0, 30, 60, 'c'));
        takes(TermsBounds::fourEntries, "1 too near to the last before", 't', desk -> desk.check(0, 0, 0, 29, 60, 'c'));
        takes(TermsBounds::fourEntries, "1 too near to the first after", 't', desk -> desk.check(0, 0, 0, 31, 60, 'c'));
        takes(TermsBounds::fourEntries, "the work of the last before", 'o', desk -> desk.check(0, 0, 0, 20, 70, 'a'));
        takes(TermsBounds::fourEntries, "and 1 too long", 't', desk -> desk.check(0, 0, 0, 20, 71, 'a'));
        takes(TermsBounds::fourEntries, "the work of the first after", 'o', desk -> desk.check(0, 0, 0, 30, 70, 'b'));
        takes(TermsBounds::fourEntries, "and 1 too early", 't', desk -> desk.check(0, 0, 0, 29, 71, 'b'));
        takes(TermsBounds::fourEntries, "the gap of one setup", 't', desk -> desk.check(0, 0, 0, 110, 10, 'b'));
        takes(TermsBounds::fourEntries, "after the last", 'o', desk -> desk.check(0, 0, 0, 130, 240, 'c'));

        sentence(TERMS, "(If one entry ends directly before another one starts, there are 0 minutes between them.)");
        takes(() -> withSetup(0), "directly after, no setup", 'o', desk -> desk.check(1, 0, 0, 10, 5, 'b'));
        takes(() -> withSetup(1), "directly after, setup 1", 't', desk -> desk.check(1, 0, 0, 10, 5, 'b'));
        takes(() -> withSetup(1), "1 minute between", 'o', desk -> desk.check(1, 0, 0, 11, 5, 'b'));
        takes(() -> withSetup(1), "directly after, same work", 'o', desk -> desk.check(1, 0, 0, 10, 5, 'a'));
        takes(() -> oneEntry(1), "directly before, setup 1", 't', desk -> desk.check(1, 0, 1, 95, 5, 'b'));
        takes(() -> oneEntry(1), "1 minute between", 'o', desk -> desk.check(1, 0, 1, 94, 5, 'b'));
        takes(() -> oneEntry(1), "directly before, same work", 'o', desk -> desk.check(1, 0, 1, 95, 5, 'a'));
    }

    private static void canBeBooked() {
        sentence(TERMS, "An entry can be booked if the induction of its member for the kind of its machine is live on"
                + " its day, no booked entry of the same member overlaps it, and its time is free.");
        takes(() -> oneEntry(30), "all three", 1, desk -> desk.book(1, 0, 1, 150, 50, 'a'));
        takes(() -> laterDay(24), "the last day of the induction", 1, desk -> desk.book(0, 0, 29, 150, 50, 'a'));
        refuses(() -> laterDay(24), "the day after it", SUPPORT, desk -> desk.book(0, 0, 30, 150, 50, 'a'));
        refuses(() -> oneEntry(30), "the member's last minute", ARITHMETIC, desk -> desk.book(0, 1, 1, 149, 50, 'a'));
        refuses(() -> oneEntry(30), "the machine's last minute", ELEMENT, desk -> desk.book(1, 0, 1, 149, 50, 'a'));
    }

    private static Lendlathe laterDay(int day) {
        Lendlathe desk = oneEntry(30);
        Desks.endDays(desk, day);
        return desk;
    }

    // ---- waiting entries

    /** Entry 0 of member 0 has machine 0 from 0 to 59; the entries 1 to 6 wait for parts of it, or for its member. */
    private static Lendlathe withQueue() {
        Lendlathe desk = Desks.with(2, 10, 3);
        desk.book(0, 0, 1, 0, 60, 'a');
        desk.await(1, 0, 1, 20, 20, 'a');
        desk.await(2, 0, 1, 39, 20, 'a');
        desk.await(2, 0, 1, 49, 11, 'b');
        desk.await(2, 0, 1, 50, 10, 'b');
        desk.await(0, 1, 1, 59, 10, 'c');
        desk.await(0, 0, 1, 0, 20, 'a');
        return desk;
    }

    private static void hasStates(String when, String due, Lendlathe desk) {
        StringBuilder states = new StringBuilder();
        for (int entry = 0; entry < desk.entries(); entry++) {
            states.append(desk.stateOf(entry));
        }
        Expect.equal("the states " + when, due, states.toString());
    }

    private static void waitingEntries() {
        sentence(TERMS, "At the end of each call that does not throw an exception, as long as there is a waiting entry"
                + " that can be booked, the lowest-numbered such entry becomes booked.");
        Lendlathe desk = withQueue();
        hasStates("at first", "bwwwwww", desk);
        desk.cancel(0);
        hasStates("after all that fit are booked, one after the other", "cbwwbbb", desk);
        desk.cancel(4);
        hasStates("after the higher number is cancelled, 3 is 1 minute too early", "cbwwcbb", desk);
        desk.cancel(1);
        hasStates("after the lower number is cancelled", "ccbwcbb", desk);
        desk.cancel(2);
        hasStates("after the one before it is cancelled", "cccbcbb", desk);
        Expect.equal("isSound()", true, desk.isSound());
    }

    private static void waitingEntriesInOrder() {
        Lendlathe cancelled = withQueue();
        cancelled.cancel(1);
        cancelled.cancel(0);
        hasStates("without the first one that waited", "ccbwwbb", cancelled);

        Lendlathe refused = withQueue();
        Expect.raises("a refused call", STATE, () -> refused.await(1, 1, 1, 200, 10, 'a'));
        hasStates("after a refused call", "bwwwwww", refused);

        Lendlathe lapsed = withQueue();
        lapsed.endDay();
        hasStates("on the day itself", "bwwwwww", lapsed);
        lapsed.endDay();
        hasStates("after the day", "dxxxxxx", lapsed);

        Lendlathe need = withQueue();
        need.induct(1, 1);
        need.induct(2, 1);
        need.addNeed(0, 1);
        hasStates("after a need that members 1 and 2 meet", "cbwwbcc", need);
    }
}
