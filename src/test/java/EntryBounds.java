/** The boundary cases of the promises 8 to 14: entries that are booked, wait, are cancelled, and the end of a day. */
final class EntryBounds extends Bounds {
    private EntryBounds() {
    }

    static void run() {
        new WishBounds(8, EntryBounds::open, 0, Lendlathe::book).run();
        new WishBounds(9, EntryBounds::filled, 14, Lendlathe::await).run();
        new WishBounds(10, EntryBounds::open, 'o', Lendlathe::check).run();
        bookReturns();
        bookInduction();
        bookMember();
        bookTime();
        bookSetup();
        bookFull();
        awaitReturns();
        awaitInduction();
        awaitBookable();
        awaitFull();
        check();
        cancelTakes();
        cancelReturns();
        cancelRefuses();
        stateOf();
        entries();
        endDay();
        endDayReturns();
        endDayRefuses();
    }

    /** 6 machines and 10 members, who took the induction for them on the present day. */
    private static Lendlathe open(int day) {
        Lendlathe desk = Desks.inductedOnDay(day);
        for (int machine = 1; machine < 6; machine++) {
            desk.addMachine(0, 0);
        }
        for (int member = 1; member < 10; member++) {
            desk.addMember();
            desk.induct(member, 0);
        }
        return desk;
    }

    /** The same, with the first 14 entries, by which member 0 has machine 0 all the time. */
    private static Lendlathe filled(int day) {
        Lendlathe desk = open(day);
        for (int next = day; next <= day + 6; next++) {
            desk.book(0, 0, next, 0, 240, 'a');
            desk.book(0, 0, next, 240, 240, 'a');
        }
        return desk;
    }

    // ---- promise 8

    private static void bookReturns() {
        sentence(8, "Books time on a machine.");
        Lendlathe desk = Desks.with(2, 10, 1);
        desk.book(0, 1, 1, 100, 50, 'b');
        Expect.equal("its minutes", "100f 50b 330f", Desks.minutes(desk, 1, 1));
        Expect.equal("another machine", "480f", Desks.minutes(desk, 0, 1));
        Expect.equal("another day", "480f", Desks.minutes(desk, 1, 0));

        sentence(8, "Returns the number of the entry, which is booked.");
        takes(() -> open(0), "the first number", 0, one -> one.book(0, 0, 0, 0, 1, 'a'));
        takes(Desks::busy, "entries in all states count", 6, one -> one.book(0, 0, 3, 0, 1, 'a'));
        takes(Desks::busy, "it is booked", 'b', one -> one.stateOf(one.book(0, 0, 3, 0, 1, 'a')));
    }

    /** Day 24; members 0 and 2 took the induction on day 0, member 1 also on day 24, who has 2 entries. */
    private static Lendlathe onDay24() {
        Lendlathe desk = Desks.with(1, 0, 3);
        Desks.endDays(desk, 24);
        desk.induct(1, 0);
        desk.book(1, 0, 29, 0, 60, 'a');
        desk.book(1, 0, 30, 0, 60, 'a');
        return desk;
    }

    /** Day 24; the induction for 0 needs that for 1, which the member took on day 0, a day before that for 0. */
    private static Lendlathe withOldNeed() {
        Lendlathe desk = Desks.with(1, 0, 0);
        desk.addMember();
        desk.addMember();
        desk.addNeed(0, 1);
        desk.induct(0, 1);
        desk.endDay();
        desk.induct(0, 0);
        Desks.endDays(desk, 23);
        desk.induct(1, 1);
        desk.induct(1, 0);
        desk.book(1, 0, 29, 0, 60, 'a');
        desk.book(1, 0, 30, 0, 60, 'a');
        return desk;
    }

    /** Member 0 has the induction for kind 0, member 1 that for kind 1, and member 2 none; machine 1 has kind 1. */
    private static Lendlathe withTwoKinds() {
        Lendlathe desk = Desks.with(1, 0, 1);
        desk.addMachine(1, 0);
        desk.addMember();
        desk.induct(1, 1);
        desk.addMember();
        return desk;
    }

    private static void bookInduction() {
        sentence(8, "Throws `UnsupportedOperationException` if the induction of the member for the kind of the machine"
                + " is not live on the day");
        takes(EntryBounds::onDay24, "the last day", 2, desk -> desk.book(0, 0, 29, 60, 60, 'a'));
        refuses(EntryBounds::onDay24, "the day after it", SUPPORT, desk -> desk.book(0, 0, 30, 60, 60, 'a'));
        takes(EntryBounds::withOldNeed, "the need's last day", 2, desk -> desk.book(0, 0, 29, 60, 60, 'a'));
        refuses(EntryBounds::withOldNeed, "the day after it", SUPPORT, desk -> desk.book(0, 0, 30, 60, 60, 'a'));
        takes(EntryBounds::withTwoKinds, "kind 0", 0, desk -> desk.book(0, 0, 0, 0, 1, 'a'));
        takes(EntryBounds::withTwoKinds, "kind 1", 0, desk -> desk.book(1, 1, 0, 0, 1, 'a'));
        refuses(EntryBounds::withTwoKinds, "only kind 0", SUPPORT, desk -> desk.book(0, 1, 0, 0, 1, 'a'));
        refuses(EntryBounds::withTwoKinds, "only kind 1", SUPPORT, desk -> desk.book(1, 0, 0, 0, 1, 'a'));
        refuses(EntryBounds::withTwoKinds, "never taken", SUPPORT, desk -> desk.book(2, 0, 0, 0, 1, 'a'));
    }

    /** Entry 0 has the minutes 100 to 149 of day 1 on machine 0; 1 waits and 2 is cancelled; all are of member 0. */
    private static Lendlathe withOneTime(int setup) {
        Lendlathe desk = Desks.with(2, setup, 2);
        desk.book(0, 0, 1, 100, 50, 'b');
        desk.await(0, 0, 1, 140, 60, 'b');
        desk.cancel(desk.book(0, 0, 1, 300, 50, 'a'));
        return desk;
    }

    private static Lendlathe withOneTime() {
        return withOneTime(0);
    }

    private static void bookMember() {
        sentence(8, "Throws `ArithmeticException` if a booked entry of the member overlaps it");
        takes(EntryBounds::withOneTime, "the minutes before", 3, desk -> desk.book(0, 1, 1, 50, 50, 'a'));
        refuses(EntryBounds::withOneTime, "its first minute", ARITHMETIC, desk -> desk.book(0, 1, 1, 51, 50, 'a'));
        refuses(EntryBounds::withOneTime, "its first minute", ARITHMETIC, desk -> desk.book(0, 1, 1, 100, 1, 'a'));
        refuses(EntryBounds::withOneTime, "its last minute", ARITHMETIC, desk -> desk.book(0, 1, 1, 149, 1, 'a'));
        refuses(EntryBounds::withOneTime, "its last minute", ARITHMETIC, desk -> desk.book(0, 1, 1, 149, 50, 'a'));
        takes(EntryBounds::withOneTime, "the minutes after", 3, desk -> desk.book(0, 1, 1, 150, 50, 'a'));
        refuses(EntryBounds::withOneTime, "the same minutes", ARITHMETIC, desk -> desk.book(0, 1, 1, 100, 50, 'b'));
        refuses(EntryBounds::withOneTime, "minutes around", ARITHMETIC, desk -> desk.book(0, 1, 1, 99, 52, 'a'));
        refuses(EntryBounds::withOneTime, "minutes inside", ARITHMETIC, desk -> desk.book(0, 1, 1, 101, 48, 'a'));
        takes(EntryBounds::withOneTime, "another day", 3, desk -> desk.book(0, 1, 0, 100, 50, 'a'));
        takes(EntryBounds::withOneTime, "another member", 3, desk -> desk.book(1, 1, 1, 100, 50, 'a'));
        takes(EntryBounds::withOneTime, "the waiting entry", 3, desk -> desk.book(0, 1, 1, 160, 40, 'a'));
        takes(EntryBounds::withOneTime, "the cancelled entry", 3, desk -> desk.book(0, 1, 1, 300, 50, 'a'));
    }

    private static void bookTime() {
        sentence(8, "Throws `NoSuchElementException` if the time is not free");
        takes(EntryBounds::withOneTime, "the minutes before", 3, desk -> desk.book(1, 0, 1, 50, 50, 'a'));
        refuses(EntryBounds::withOneTime, "its first minute", ELEMENT, desk -> desk.book(1, 0, 1, 51, 50, 'a'));
        refuses(EntryBounds::withOneTime, "its last minute", ELEMENT, desk -> desk.book(1, 0, 1, 149, 50, 'a'));
        takes(EntryBounds::withOneTime, "the minutes after", 3, desk -> desk.book(1, 0, 1, 150, 50, 'a'));
        refuses(EntryBounds::withOneTime, "the same minutes", ELEMENT, desk -> desk.book(1, 0, 1, 100, 50, 'b'));
        refuses(EntryBounds::withOneTime, "minutes around", ELEMENT, desk -> desk.book(1, 0, 1, 99, 52, 'a'));
        refuses(EntryBounds::withOneTime, "minutes inside", ELEMENT, desk -> desk.book(1, 0, 1, 101, 48, 'a'));
        takes(EntryBounds::withOneTime, "another machine", 3, desk -> desk.book(1, 1, 1, 100, 50, 'a'));
        takes(EntryBounds::withOneTime, "another day", 3, desk -> desk.book(1, 0, 0, 100, 50, 'a'));
        takes(EntryBounds::withOneTime, "the waiting entry", 3, desk -> desk.book(1, 0, 1, 160, 40, 'b'));
        takes(EntryBounds::withOneTime, "the cancelled entry", 3, desk -> desk.book(1, 0, 1, 300, 50, 'a'));
    }

    private static void bookSetup() {
        takes(() -> withOneTime(30), "30 minutes after", 3, desk -> desk.book(1, 0, 1, 180, 50, 'a'));
        refuses(() -> withOneTime(30), "29 minutes after", ELEMENT, desk -> desk.book(1, 0, 1, 179, 50, 'a'));
        takes(() -> withOneTime(30), "30 minutes before", 3, desk -> desk.book(1, 0, 1, 20, 50, 'a'));
        refuses(() -> withOneTime(30), "29 minutes before", ELEMENT, desk -> desk.book(1, 0, 1, 21, 50, 'a'));
        takes(() -> withOneTime(30), "after the same work", 3, desk -> desk.book(1, 0, 1, 150, 50, 'b'));
        takes(() -> withOneTime(30), "before the same work", 3, desk -> desk.book(1, 0, 1, 50, 50, 'b'));
        takes(() -> withOneTime(1), "1 minute after", 3, desk -> desk.book(1, 0, 1, 151, 50, 'c'));
        refuses(() -> withOneTime(1), "0 minutes after", ELEMENT, desk -> desk.book(1, 0, 1, 150, 50, 'c'));
        refuses(() -> withOneTime(1), "0 minutes before", ELEMENT, desk -> desk.book(1, 0, 1, 50, 50, 'c'));
    }

    private static Lendlathe withEntries(int entries) {
        Lendlathe desk = Desks.with(1, 0, 2);
        for (int i = 0; i < entries; i++) {
            desk.book(0, 0, 0, i, 1, 'a');
        }
        return desk;
    }

    /** So many entries on day 1, all of which are done, lapsed or cancelled. */
    private static Lendlathe withPastEntries(int entries) {
        Lendlathe desk = Desks.with(1, 0, 2);
        for (int i = 0; i < entries; i++) {
            if (i % 3 == 1) {
                desk.await(0, 0, 0, i - 1, 1, 'a');
            } else {
                desk.book(0, 0, 0, i, 1, 'a');
            }
            if (i % 3 == 2) {
                desk.cancel(i);
            }
        }
        desk.endDay();
        return desk;
    }

    private static void bookFull() {
        sentence(8, "Throws `IllegalStateException` if there are 150 entries");
        takes(() -> withEntries(149), "the 150th entry", 149, desk -> desk.book(0, 0, 0, 200, 1, 'a'));
        refuses(() -> withEntries(150), "the 151st entry", STATE, desk -> desk.book(0, 0, 0, 200, 1, 'a'));
        takes(() -> withPastEntries(149), "the 150th entry", 149, desk -> desk.book(0, 0, 1, 0, 1, 'a'));
        refuses(() -> withPastEntries(150), "the 151st entry", STATE, desk -> desk.book(0, 0, 1, 0, 1, 'a'));
    }

    // ---- promise 9

    private static void awaitReturns() {
        sentence(9, "Adds a waiting entry.");
        takes(EntryBounds::withOneTime, "one more waits", 2, desk -> {
            desk.await(1, 0, 1, 149, 1, 'a');
            return desk.waiting(0, 1);
        });
        takes(EntryBounds::withOneTime, "it takes no minutes", "100f 50b 330f", desk -> {
            desk.await(1, 0, 1, 149, 100, 'a');
            return Desks.minutes(desk, 0, 1);
        });

        sentence(9, "Returns the number of the entry, which is waiting.");
        takes(Desks::busy, "entries in all states count", 6, desk -> desk.await(1, 0, 1, 0, 60, 'a'));
        takes(Desks::busy, "it waits", 'w', desk -> desk.stateOf(desk.await(1, 0, 1, 0, 60, 'a')));
    }

    private static void awaitInduction() {
        sentence(9, "Throws `UnsupportedOperationException` if the induction of the member for the kind of the machine"
                + " is not live on the day");
        takes(EntryBounds::onDay24, "the last day", 2, desk -> desk.await(0, 0, 29, 0, 60, 'a'));
        refuses(EntryBounds::onDay24, "the day after it", SUPPORT, desk -> desk.await(0, 0, 30, 0, 60, 'a'));
        takes(EntryBounds::withOldNeed, "the need's last day", 2, desk -> desk.await(0, 0, 29, 0, 60, 'a'));
        refuses(EntryBounds::withOldNeed, "the day after it", SUPPORT, desk -> desk.await(0, 0, 30, 0, 60, 'a'));
        refuses(EntryBounds::withTwoKinds, "only kind 0", SUPPORT, desk -> desk.await(0, 1, 0, 0, 1, 'a'));
        refuses(EntryBounds::withTwoKinds, "only kind 1", SUPPORT, desk -> desk.await(1, 0, 0, 0, 1, 'a'));
        refuses(EntryBounds::withTwoKinds, "never taken", SUPPORT, desk -> desk.await(2, 0, 0, 0, 1, 'a'));
    }

    private static void awaitBookable() {
        sentence(9, "Throws `IllegalStateException` if the entry could be booked, or there are 150 entries");
        takes(EntryBounds::withOneTime, "its first minute", 3, desk -> desk.await(1, 0, 1, 51, 50, 'b'));
        refuses(EntryBounds::withOneTime, "the minutes before", STATE, desk -> desk.await(1, 0, 1, 50, 50, 'b'));
        takes(EntryBounds::withOneTime, "its last minute", 3, desk -> desk.await(1, 0, 1, 149, 50, 'b'));
        refuses(EntryBounds::withOneTime, "the minutes after", STATE, desk -> desk.await(1, 0, 1, 150, 50, 'b'));
        takes(EntryBounds::withOneTime, "the member's last minute", 3, desk -> desk.await(0, 1, 1, 149, 50, 'b'));
        refuses(EntryBounds::withOneTime, "the member is free", STATE, desk -> desk.await(0, 1, 1, 150, 50, 'b'));
        takes(() -> withOneTime(30), "29 minutes after", 3, desk -> desk.await(1, 0, 1, 179, 50, 'a'));
        refuses(() -> withOneTime(30), "30 minutes after", STATE, desk -> desk.await(1, 0, 1, 180, 50, 'a'));
        takes(() -> withOneTime(30), "29 minutes before", 3, desk -> desk.await(1, 0, 1, 21, 50, 'a'));
        refuses(() -> withOneTime(30), "30 minutes before", STATE, desk -> desk.await(1, 0, 1, 20, 50, 'a'));
    }

    private static void awaitFull() {
        takes(() -> withEntries(149), "the 150th entry", 149, desk -> desk.await(0, 0, 0, 0, 1, 'a'));
        refuses(() -> withEntries(150), "the 151st entry", STATE, desk -> desk.await(0, 0, 0, 0, 1, 'a'));
        refuses(() -> withEntries(150), "and it could be booked", STATE, desk -> desk.await(0, 0, 0, 200, 1, 'a'));
    }

    // ---- promise 10

    /** Machine 1 has kind 1, for which member 0 has no induction; 0 to 59 are taken of machine 0, 1 and member 0. */
    private static Lendlathe withAllLetters() {
        Lendlathe desk = Desks.with(1, 10, 3);
        desk.addMachine(1, 10);
        desk.addMachine(0, 10);
        desk.induct(1, 1);
        desk.book(0, 0, 0, 0, 60, 'a');
        desk.book(1, 1, 0, 0, 60, 'a');
        return desk;
    }

    private static void check() {
        sentence(10, "Tells whether an entry could be booked, without adding it.");
        asks(EntryBounds::withAllLetters, "check of a free time", desk -> desk.check(2, 2, 0, 0, 60, 'a'));
        asks(EntryBounds::withAllLetters, "check of a taken time", desk -> desk.check(2, 0, 0, 0, 60, 'a'));
        takes(() -> withEntries(150), "an entry that could be booked but for the number", 'o',
                desk -> desk.check(0, 0, 0, 200, 1, 'a'));

        sentence(10, "Returns the first of these letters that fits: 'i' if the induction of the member for the kind of"
                + " the machine is not live on the day, 'm' if a booked entry of the member overlaps it, 't' if the"
                + " time is not free, 'o' otherwise.");
        takes(EntryBounds::withAllLetters, "i, m and t", 'i', desk -> desk.check(0, 1, 0, 59, 60, 'a'));
        takes(EntryBounds::withAllLetters, "i alone", 'i', desk -> desk.check(0, 1, 0, 60, 60, 'a'));
        takes(EntryBounds::withAllLetters, "i and t", 'i', desk -> desk.check(2, 1, 0, 59, 60, 'a'));
        takes(EntryBounds::withAllLetters, "m and t", 'm', desk -> desk.check(0, 0, 0, 59, 60, 'a'));
        takes(EntryBounds::withAllLetters, "m alone", 'm', desk -> desk.check(0, 2, 0, 59, 60, 'a'));
        takes(EntryBounds::withAllLetters, "t by a minute", 't', desk -> desk.check(2, 0, 0, 59, 60, 'a'));
        takes(EntryBounds::withAllLetters, "t by the setup", 't', desk -> desk.check(2, 0, 0, 69, 60, 'b'));
        takes(EntryBounds::withAllLetters, "t by the own setup", 't', desk -> desk.check(0, 0, 0, 69, 60, 'b'));
        takes(EntryBounds::withAllLetters, "none, after the setup", 'o', desk -> desk.check(2, 0, 0, 70, 60, 'b'));
        takes(EntryBounds::withAllLetters, "none, same work", 'o', desk -> desk.check(0, 0, 0, 60, 60, 'a'));
        takes(EntryBounds::withAllLetters, "none, another machine", 'o', desk -> desk.check(2, 2, 0, 0, 60, 'a'));
        takes(EntryBounds::withAllLetters, "none, another day", 'o', desk -> desk.check(0, 0, 1, 0, 60, 'a'));
        takes(EntryBounds::onDay24, "the induction's last day", 'o', desk -> desk.check(0, 0, 29, 60, 60, 'a'));
        takes(EntryBounds::onDay24, "the day after it", 'i', desk -> desk.check(0, 0, 30, 60, 60, 'a'));
    }

    // ---- promise 11

    private static void cancelTakes() {
        sentence(11, "Cancels an entry.");
        Lendlathe desk = Desks.busy();
        desk.cancel(2);
        Expect.equal("it is cancelled", 'c', desk.stateOf(2));
        Expect.equal("its time is free", 'o', desk.check(2, 0, 1, 0, 20, 'b'));
        Expect.equal("the one that waited is booked", 'b', desk.stateOf(3));
        Expect.equal("its cut has ended, another one's has not", 397, desk.freeOf(1));

        sentence(11, "`entry`: the number of the entry");
        takes(() -> withEntries(1), "entry 0", 'h', one -> one.cancel(0));
        takes(() -> withEntries(150), "entry 0", 'h', one -> one.cancel(0));
        takes(() -> withEntries(150), "entry 149", 'h', one -> one.cancel(149));
    }

    /** Entries 0 to 2 are booked for the days 0, 1 and 6, entries 3 to 5 wait for them. */
    private static Lendlathe withThreeDays() {
        Lendlathe desk = Desks.with(1, 0, 1);
        for (int day : new int[] {0, 1, 6}) {
            desk.book(0, 0, day, 0, 10, 'a');
        }
        for (int day : new int[] {0, 1, 6}) {
            desk.await(0, 0, day, 9, 10, 'a');
        }
        return desk;
    }

    private static void cancelReturns() {
        sentence(11, "Returns 'w' if it was waiting, 'h' if it was booked for the present day, 'f' if it was booked for"
                + " a later day.");
        String letters = "hffwww";
        for (int number = 0; number < 6; number++) {
            int entry = number;
            takes(EntryBounds::withThreeDays, "entry " + entry, letters.charAt(entry), desk -> desk.cancel(entry));
        }
        takes(EntryBounds::withThreeDays, "the next day becomes the present one", 'h', desk -> {
            desk.endDay();
            return desk.cancel(1);
        });
        takes(EntryBounds::withThreeDays, "one that waited and was booked", 'h', desk -> {
            desk.cancel(0);
            return desk.cancel(3);
        });
    }

    private static void cancelRefuses() {
        sentence(11, "Throws `NoSuchElementException` if there is no such entry");
        refuses(Lendlathe::new, "there are no entries", ELEMENT, desk -> desk.cancel(0));
        refusesOutside(Desks::busy, 0, 5, ELEMENT, Lendlathe::cancel);
        refusesOutside(() -> withEntries(150), 0, 149, ELEMENT, Lendlathe::cancel);

        sentence(11, "Throws `IllegalStateException` if it is neither waiting nor booked");
        refuses(Desks::busy, "a done entry", STATE, desk -> desk.cancel(0));
        refuses(Desks::busy, "a lapsed entry", STATE, desk -> desk.cancel(1));
        refuses(Desks::busy, "a cancelled entry", STATE, desk -> desk.cancel(5));
        takes(Desks::busy, "a booked entry", 'h', desk -> desk.cancel(2));
        takes(Desks::busy, "a waiting entry", 'w', desk -> desk.cancel(3));
    }

    // ---- promises 12 and 13

    private static void stateOf() {
        sentence(12, "Returns the state of an entry.");
        takes(EntryBounds::withThreeDays, "a booked one", 'b', desk -> desk.stateOf(0));
        asks(Desks::busy, "stateOf", desk -> desk.stateOf(3));

        sentence(12, "`entry`: the number of the entry");
        takes(() -> withEntries(1), "entry 0", 'b', desk -> desk.stateOf(0));
        takes(() -> withEntries(150), "entry 149", 'b', desk -> desk.stateOf(149));

        sentence(12, "Returns 'w' if it is waiting, 'b' if it is booked, 'c' if it is cancelled, 'd' if it is done, 'x'"
                + " if it is lapsed.");
        String letters = "dxbwbc";
        for (int number = 0; number < 6; number++) {
            int entry = number;
            takes(Desks::busy, "entry " + entry, letters.charAt(entry), desk -> desk.stateOf(entry));
        }

        sentence(12, "Throws `NoSuchElementException` if there is no such entry");
        refuses(Lendlathe::new, "there are no entries", ELEMENT, desk -> desk.stateOf(0));
        refusesOutside(Desks::busy, 0, 5, ELEMENT, Lendlathe::stateOf);
        refusesOutside(() -> withEntries(150), 0, 149, ELEMENT, Lendlathe::stateOf);
    }

    private static void entries() {
        sentence(13, "Returns the number of entries, in all states.");
        takes(Lendlathe::new, "none", 0, Lendlathe::entries);
        takes(() -> withEntries(1), "one", 1, Lendlathe::entries);
        takes(Desks::busy, "one or two in each state", 6, Lendlathe::entries);
        takes(() -> withEntries(150), "as many as there can be", 150, Lendlathe::entries);
        takes(() -> withPastEntries(150), "done, lapsed and cancelled ones", 150, Lendlathe::entries);
        asks(Desks::busy, "entries()", Lendlathe::entries);
    }

    // ---- promise 14

    private static void endDay() {
        sentence(14, "Ends the present day: all booked entries for it become done, in the order of their numbers, all"
                + " waiting entries for it become lapsed, and the next day is the present one.");
        Lendlathe desk = withThreeDays();
        String[] states = {"dbbxww", "ddbxxw", "ddbxxw", "ddbxxw", "ddbxxw", "ddbxxw", "dddxxx", "dddxxx"};
        for (int day = 0; day < states.length; day++) {
            desk.endDay();
            Expect.equal("the present day", day + 1, desk.day());
            for (int entry = 0; entry < 6; entry++) {
                Expect.equal("entry " + entry + " after day " + day, states[day].charAt(entry), desk.stateOf(entry));
            }
        }
        Lendlathe cancelled = withThreeDays();
        cancelled.cancel(3);
        cancelled.cancel(0);
        cancelled.endDay();
        Expect.equal("a cancelled entry stays cancelled", 'c', cancelled.stateOf(0));
        Expect.equal("a cancelled entry stays cancelled", 'c', cancelled.stateOf(3));
    }

    private static void endDayReturns() {
        sentence(14, "Returns how many entries became done.");
        takes(Lendlathe::new, "none", 0, Lendlathe::endDay);
        takes(() -> withEntries(1), "one", 1, Lendlathe::endDay);
        takes(() -> withEntries(150), "as many as there can be", 150, Lendlathe::endDay);
        takes(EntryBounds::withThreeDays, "one of three", 1, Lendlathe::endDay);
        takes(() -> withPastEntries(150), "none of those that were done before", 0, Lendlathe::endDay);
    }

    private static void endDayRefuses() {
        sentence(14, "Throws `IllegalStateException` if the present day is 900");
        takes(() -> Desks.inductedOnDay(899), "the end of day 899", 0, Lendlathe::endDay);
        refuses(() -> Desks.inductedOnDay(900), "the end of day 900", STATE, Lendlathe::endDay);
        refuses(() -> open(900), "the end of day 900", STATE, Lendlathe::endDay);
        refuses(() -> filled(900), "the end of day 900 with entries for it", STATE, Lendlathe::endDay);
    }
}
