/** The boundary cases of the promises 1 to 7: a new object, machines, members, days and inductions. */
final class InductionBounds extends Bounds {
    private InductionBounds() {
    }

    static void run() {
        newObject();
        newObjectsShareNothing();
        addMachine();
        addMachineTakes();
        addMachineRefuses();
        addMember();
        day();
        addNeedMakes();
        addNeedCancels();
        addNeedCancelsOnlyOpenEntries();
        addNeedTakes();
        addNeedReturns();
        addNeedRefuses();
        addNeedRefusesCircles();
        inductTakes();
        inductReturns();
        inductRefuses();
        inductNeeds();
        isLiveReturns();
        isLiveTakes();
        isLiveRefuses();
    }

    // ---- promise 1

    private static void newObject() {
        sentence(1, "Creates a desk without machines, members, entries and bars, on day 0; all prices are 0.");
        refuses(Lendlathe::new, "machine 0", INDEX, desk -> desk.usedMinutes(0, 0));
        refuses(Lendlathe::new, "member 0", INDEX, desk -> desk.owes(0));
        refuses(Lendlathe::new, "entry 0", ELEMENT, desk -> desk.stateOf(0));
        refuses(Lendlathe::new, "bar 0", ELEMENT, desk -> desk.freeOf(0));
        refuses(Lendlathe::new, "breakage 0", ELEMENT, desk -> desk.shareOf(0, 0));
        refuses(Lendlathe::new, "no entry is done", ARITHMETIC, Lendlathe::meanMinutes);
        takes(Lendlathe::new, "entries()", 0, Lendlathe::entries);
        takes(Lendlathe::new, "day()", 0, Lendlathe::day);
        takes(Lendlathe::new, "takings()", 0L, Lendlathe::takings);
        takes(Lendlathe::new, "endDay()", 0, Lendlathe::endDay);
        for (int number = 0; number < 3; number++) {
            int material = number;
            takes(Lendlathe::new, "the price of material " + material, 0, desk -> desk.setPrice(material, 99));
        }
    }

    private static void newObjectsShareNothing() {
        Lendlathe used = Desks.busy();
        Expect.equal("a desk beside a busy one", 0, new Lendlathe().entries());
        String fresh = Answers.of(new Lendlathe());
        Expect.equal("entries of the busy one", 6, used.entries());
        Answers.of(used);
        Expect.equal("a desk after a busy one", fresh, Answers.of(new Lendlathe()));
    }

    // ---- promise 2

    private static void addMachine() {
        sentence(2, "Adds a machine.");
        refuses(Lendlathe::new, "no machine", INDEX, desk -> desk.usedMinutes(0, 0));
        Lendlathe desk = new Lendlathe();
        desk.addMachine(0, 0);
        Expect.equal("machine 0", 0, desk.usedMinutes(0, 0));
        refuses(() -> Desks.with(1, 0, 0), "machine 1", INDEX, one -> one.usedMinutes(1, 0));

        sentence(2, "Returns the number of the machine.");
        Lendlathe six = new Lendlathe();
        for (int machine = 0; machine < 6; machine++) {
            Expect.equal("addMachine", machine, six.addMachine(machine % 4, machine));
            Expect.equal("the number stands for it", "480f", Desks.minutes(six, machine, 0));
        }
    }

    private static Lendlathe inducted(int kind, int setup) {
        Lendlathe desk = new Lendlathe();
        desk.addMachine(kind, setup);
        desk.addMember();
        desk.induct(0, kind);
        return desk;
    }

    private static void addMachineTakes() {
        sentence(2, "`kind`: the kind, 0 to 3");
        for (int number = 0; number < 4; number++) {
            int kind = number;
            takes(Lendlathe::new, "kind " + kind, 0, desk -> desk.addMachine(kind, 0));
            takes(() -> inducted(kind, 0), "booked by the induction for kind " + kind, 0,
                    desk -> desk.book(0, 0, 0, 0, 1, 'a'));
        }

        sentence(2, "`setup`: the setup time, 0 to 30");
        for (int number : new int[] {0, 1, 29, 30}) {
            int setup = number;
            takes(Lendlathe::new, "setup " + setup, 0, desk -> desk.addMachine(0, setup));
            Lendlathe desk = inducted(0, setup);
            desk.book(0, 0, 0, 0, 100, 'a');
            Expect.equal("the first minute for other work", 100 + setup, desk.firstStart(0, 0, 1, 'b'));
        }
    }

    private static void addMachineRefuses() {
        sentence(2, "Throws `IllegalArgumentException` if one of them is out of range");
        refusesOutside(Lendlathe::new, 0, 3, RANGE, (desk, kind) -> desk.addMachine(kind, 0));
        refusesOutside(Lendlathe::new, 0, 30, RANGE, (desk, setup) -> desk.addMachine(3, setup));
        refuses(Lendlathe::new, "both out of range", RANGE, desk -> desk.addMachine(4, 31));

        sentence(2, "Throws `IllegalStateException` if there are 6 machines");
        takes(() -> Desks.with(5, 0, 0), "the sixth machine", 5, desk -> desk.addMachine(3, 30));
        refuses(() -> Desks.with(6, 0, 0), "the seventh machine", STATE, desk -> desk.addMachine(3, 30));
        refuses(() -> Desks.with(6, 0, 0), "machine 6", INDEX, desk -> desk.usedMinutes(6, 0));
    }

    // ---- promises 3 and 4

    private static void addMember() {
        sentence(3, "Adds a member without inductions, who owes nothing.");
        refuses(() -> Desks.with(0, 0, 1), "member 1", INDEX, desk -> desk.owes(1));
        for (int kind = 0; kind < 4; kind++) {
            Lendlathe desk = Desks.with(0, 0, 1);
            desk.addMember();
            Expect.equal("what the new one owes", 0, desk.owes(1));
            Expect.equal("what the new one owes", 0, desk.owesByEntries(1));
            Expect.equal("live on this day", false, desk.isLive(1, kind, 0));
            Expect.equal("live on the last day", false, desk.isLive(1, kind, 999));
            Expect.equal("taken before", -1, desk.induct(1, kind));
        }

        sentence(3, "Returns the number of the member.");
        Lendlathe ten = new Lendlathe();
        for (int member = 0; member < 10; member++) {
            Expect.equal("addMember", member, ten.addMember());
        }

        sentence(3, "Throws `IllegalStateException` if there are 10 members");
        takes(() -> Desks.with(0, 0, 9), "the tenth member", 9, Lendlathe::addMember);
        refuses(() -> Desks.with(0, 0, 10), "the eleventh member", STATE, Lendlathe::addMember);
        refuses(() -> Desks.with(0, 0, 10), "member 10", INDEX, desk -> desk.owes(10));
    }

    private static void day() {
        sentence(4, "Returns the present day.");
        takes(Lendlathe::new, "day() at first", 0, Lendlathe::day);
        takes(() -> Desks.onDay(1), "day() after one day", 1, Lendlathe::day);
        takes(() -> Desks.onDay(900), "day() on the last day", 900, Lendlathe::day);
        asks(Desks::busy, "day()", Lendlathe::day);
    }

    // ---- promise 5

    private static void addNeedMakes() {
        sentence(5, "Makes the induction for a kind need the induction for another kind.");
        for (int number = 0; number < 12; number++) {
            int kind = number % 4;
            int other = (kind + 1 + number / 4) % 4;
            Lendlathe desk = Desks.memberOfAllKinds();
            desk.addMember();
            Expect.equal("addNeed", true, desk.addNeed(kind, other));
            Expect.raises("without the other", SUPPORT, () -> desk.induct(1, kind));
            desk.induct(1, other);
            Expect.equal("with the other", -1, desk.induct(1, kind));
            Expect.equal("live", true, desk.isLive(1, kind, 29));
            Expect.equal("live with the other one", true, desk.isLive(0, kind, 29));
        }
    }

    /** Member 0 took the inductions for 1 on day 0 and for 0 on day 2, member 1 both on day 2; it is day 24. */
    private static Lendlathe withUnlikeLives() {
        Lendlathe desk = Desks.with(2, 0, 0);
        desk.addMachine(1, 0);
        desk.addMember();
        desk.addMember();
        desk.induct(0, 1);
        Desks.endDays(desk, 2);
        desk.induct(0, 0);
        desk.induct(1, 0);
        desk.induct(1, 1);
        Desks.endDays(desk, 22);
        return desk;
    }

    private static void addNeedCancels() {
        sentence(5, "Then all waiting and booked entries whose member has no live induction for the kind of their"
                + " machine on their day are cancelled; nobody owes anything for that.");
        Lendlathe desk = withUnlikeLives();
        desk.setRate(0, 99);
        desk.deliver(0, 1000);
        desk.book(0, 0, 29, 0, 60, 'a');
        desk.book(0, 0, 30, 0, 60, 'a');
        desk.cut(1, 0, 400);
        desk.await(0, 0, 29, 0, 30, 'a');
        desk.await(0, 0, 30, 0, 30, 'a');
        desk.await(1, 0, 29, 30, 60, 'a');
        desk.await(1, 0, 30, 30, 60, 'a');
        desk.book(0, 2, 29, 100, 60, 'a');
        desk.addNeed(0, 1);
        Expect.equal("booked for the last live day", 'b', desk.stateOf(0));
        Expect.equal("booked for the day after it", 'c', desk.stateOf(1));
        Expect.equal("waiting for the last live day", 'w', desk.stateOf(2));
        Expect.equal("waiting for the day after it", 'c', desk.stateOf(3));
        Expect.equal("still no time", 'w', desk.stateOf(4));
        Expect.equal("time that became free", 'b', desk.stateOf(5));
        Expect.equal("another kind", 'b', desk.stateOf(6));
        Expect.equal("nobody owes anything", 0, desk.owes(0));
        Expect.equal("nothing is due", 0, desk.dueOf(1));
        Expect.equal("the cut has ended", 1000, desk.freeOf(0));
        Expect.equal("the cut has ended", 1000, desk.freeByCuts(0));
    }

    private static void addNeedCancelsOnlyOpenEntries() {
        Lendlathe desk = Desks.with(1, 0, 2);
        desk.setRate(0, 3);
        desk.induct(1, 1);
        desk.book(0, 0, 0, 0, 60, 'a');
        desk.await(0, 0, 0, 0, 60, 'b');
        desk.endDay();
        desk.book(0, 0, 1, 0, 60, 'a');
        desk.await(0, 0, 1, 0, 60, 'a');
        desk.await(1, 0, 1, 0, 60, 'a');
        desk.addNeed(0, 1);
        Expect.equal("a done entry stays done", 'd', desk.stateOf(0));
        Expect.equal("and its due stays", 180, desk.dueOf(0));
        Expect.equal("a lapsed entry stays lapsed", 'x', desk.stateOf(1));
        Expect.equal("one of the present day", 'c', desk.stateOf(2));
        Expect.equal("nothing is owed, not even for the present day", 180, desk.owes(0));
        Expect.equal("the one of lower number is cancelled, too", 'c', desk.stateOf(3));
        Expect.equal("so the next one is booked", 'b', desk.stateOf(4));

        Lendlathe first = Desks.with(1, 0, 2);
        first.induct(1, 1);
        first.book(0, 0, 1, 0, 30, 'a');
        first.book(0, 0, 1, 30, 30, 'a');
        first.await(1, 0, 1, 0, 60, 'a');
        first.await(1, 0, 1, 0, 30, 'a');
        first.addNeed(0, 1);
        Expect.equal("all are cancelled before one that waits is booked", 'b', first.stateOf(2));
        Expect.equal("so there is no time for the next one", 'w', first.stateOf(3));

        Lendlathe chain = Desks.with(1, 0, 1);
        chain.induct(0, 1);
        chain.addNeed(0, 1);
        chain.book(0, 0, 0, 0, 60, 'a');
        chain.addNeed(1, 2);
        Expect.equal("a need of a need", 'c', chain.stateOf(0));
    }

    private static void addNeedTakes() {
        sentence(5, "`kind`: the kind, 0 to 3");
        for (int number = 0; number < 4; number++) {
            int kind = number;
            takes(Lendlathe::new, "kind " + kind, true, desk -> desk.addNeed(kind, (kind + 1) % 4));
        }

        sentence(5, "`other`: the other kind, 0 to 3");
        for (int number = 0; number < 4; number++) {
            int other = number;
            takes(Lendlathe::new, "other " + other, true, desk -> desk.addNeed((other + 1) % 4, other));
        }
    }

    /** Each kind needs the next one; member 0 has all inductions, member 1 none, member 2 that for kind 3. */
    private static Lendlathe withNeeds(int... kinds) {
        Lendlathe desk = Desks.memberOfAllKinds();
        desk.addMember();
        desk.addMember();
        desk.induct(2, 3);
        for (int i = 1; i < kinds.length; i++) {
            desk.addNeed(kinds[i - 1], kinds[i]);
        }
        return desk;
    }

    private static void addNeedReturns() {
        sentence(5, "Returns whether it did not need it before the call.");
        takes(() -> withNeeds(), "a first need", true, desk -> desk.addNeed(3, 0));
        takes(() -> withNeeds(3, 0), "the same need again", false, desk -> desk.addNeed(3, 0));
        takes(() -> withNeeds(3, 0), "another need of it", true, desk -> desk.addNeed(3, 1));
        takes(() -> withNeeds(3, 0), "the same need of another kind", true, desk -> desk.addNeed(2, 0));
        takes(() -> withNeeds(3, 1, 0), "needed by another one until now", true, desk -> desk.addNeed(3, 0));
        takes(() -> withNeeds(3, 1, 0), "each of two", false, desk -> desk.addNeed(1, 0));
    }

    private static void addNeedRefuses() {
        sentence(5, "Throws `IllegalArgumentException` if a kind is out of range, or both are the same");
        refusesOutside(Lendlathe::new, 0, 3, RANGE, (desk, kind) -> desk.addNeed(kind, 0));
        refusesOutside(Lendlathe::new, 0, 3, RANGE, (desk, other) -> desk.addNeed(0, other));
        for (int kind : new int[] {-1, 0, 1, 2, 3, 4, LEAST, GREATEST}) {
            refuses(Lendlathe::new, "both are " + kind, RANGE, desk -> desk.addNeed(kind, kind));
            refuses(Desks::busy, "both are " + kind, RANGE, desk -> desk.addNeed(kind, kind));
        }
    }

    private static void addNeedRefusesCircles() {
        sentence(5, "Throws `IllegalStateException` if the induction for the other kind needs the induction for this"
                + " kind, itself or by inductions that it needs");
        refuses(() -> withNeeds(0, 1), "the need itself turned round", STATE, desk -> desk.addNeed(1, 0));
        refuses(() -> withNeeds(3, 2), "the need itself turned round", STATE, desk -> desk.addNeed(2, 3));
        refuses(() -> withNeeds(0, 1, 2), "by one between them", STATE, desk -> desk.addNeed(2, 0));
        refuses(() -> withNeeds(2, 1, 0), "by one between them", STATE, desk -> desk.addNeed(0, 2));
        refuses(() -> withNeeds(0, 1, 2, 3), "by two between them", STATE, desk -> desk.addNeed(3, 0));
        refuses(() -> withNeeds(1, 3, 0, 2), "by two between them", STATE, desk -> desk.addNeed(2, 1));
        takes(() -> withNeeds(0, 1, 2, 3), "the same way round", true, desk -> desk.addNeed(0, 3));
        takes(() -> withNeeds(0, 1), "needs of other kinds", true, desk -> desk.addNeed(3, 2));
        takes(() -> withNeeds(0, 1), "two kinds that need the same one", true, desk -> desk.addNeed(2, 1));
        takes(() -> withNeeds(0, 1), "one kind that needs two", true, desk -> desk.addNeed(0, 2));
        takes(() -> withNeeds(0, 1), "a need of the needed one", true, desk -> desk.addNeed(1, 2));
    }

    // ---- promise 6

    private static void inductTakes() {
        sentence(6, "Lets a member take the induction for a kind on the present day.");
        for (int days : new int[] {0, 1, 900}) {
            Lendlathe desk = Desks.onDay(days);
            desk.addMember();
            desk.induct(0, 2);
            Expect.equal("live on the present day", true, desk.isLive(0, 2, days));
            Expect.equal("live 29 days later", true, desk.isLive(0, 2, days + 29));
            Expect.equal("live 30 days later", false, desk.isLive(0, 2, days + 30));
        }

        sentence(6, "`member`: the number of the member");
        for (int member : new int[] {0, 9}) {
            takes(() -> Desks.with(0, 0, 10), "member " + member, 0, desk -> desk.induct(member, 0));
            takes(() -> Desks.with(0, 0, 10), "member " + member, -1, desk -> desk.induct(member, 1));
        }

        sentence(6, "`kind`: the kind, 0 to 3");
        for (int number = 0; number < 4; number++) {
            int kind = number;
            takes(Desks::memberOfAllKinds, "kind " + kind, 0, desk -> desk.induct(0, kind));
        }
    }

    private static void inductReturns() {
        sentence(6, "Returns how many days ago the member took it last before the call, or -1 if never.");
        takes(() -> Desks.with(0, 0, 1), "never", -1, desk -> desk.induct(0, 1));
        for (int days : new int[] {0, 1, 29, 30, 31, 400}) {
            Lendlathe desk = Desks.with(0, 0, 2);
            Desks.endDays(desk, days);
            Expect.equal("days ago", days, desk.induct(0, 0));
            Expect.equal("the last time counts", 0, desk.induct(0, 0));
            Expect.equal("another member's time", days, desk.induct(1, 0));
            Expect.equal("another kind", -1, desk.induct(0, 3));
        }
        Lendlathe late = Desks.onDay(7);
        late.addMember();
        Expect.equal("never, on day 7", -1, late.induct(0, 0));
    }

    private static void inductRefuses() {
        sentence(6, "Throws `IndexOutOfBoundsException` if there is no such member");
        refuses(Lendlathe::new, "there are no members", INDEX, desk -> desk.induct(0, 0));
        refusesOutside(() -> Desks.with(0, 0, 1), 0, 0, INDEX, (desk, member) -> desk.induct(member, 0));
        refusesOutside(() -> Desks.with(0, 0, 10), 0, 9, INDEX, (desk, member) -> desk.induct(member, 0));

        sentence(6, "Throws `IllegalArgumentException` if the kind is out of range");
        refusesOutside(Desks::memberOfAllKinds, 0, 3, RANGE, (desk, kind) -> desk.induct(0, kind));
    }

    /** Kind 0 needs kind 1, and kind 1 needs kind 2; member 0 took 2 on day 0 and 1 on day 1. */
    private static Lendlathe withOldNeeds(int day) {
        Lendlathe desk = new Lendlathe();
        desk.addNeed(0, 1);
        desk.addNeed(1, 2);
        desk.addMember();
        desk.addMember();
        desk.induct(0, 2);
        desk.endDay();
        desk.induct(0, 1);
        Desks.endDays(desk, day - 1);
        return desk;
    }

    private static void inductNeeds() {
        sentence(6, "Throws `UnsupportedOperationException` if an induction that it needs is not live on the present"
                + " day for this member");
        takes(() -> withOldNeeds(29), "the last day of the need's need", -1, desk -> desk.induct(0, 0));
        takes(() -> withOldNeeds(29), "the last day of the need", 28, desk -> desk.induct(0, 1));
        refuses(() -> withOldNeeds(30), "the day after it", SUPPORT, desk -> desk.induct(0, 0));
        refuses(() -> withOldNeeds(30), "the day after it", SUPPORT, desk -> desk.induct(0, 1));
        takes(() -> withOldNeeds(30), "one that needs nothing", 30, desk -> desk.induct(0, 2));
        refuses(() -> withOldNeeds(1), "another member", SUPPORT, desk -> desk.induct(1, 1));
        refuses(() -> withNeeds(0, 1, 2, 3), "none of three needs", SUPPORT, desk -> desk.induct(1, 0));
        refuses(() -> withNeeds(0, 1, 2, 3), "the last of three needs only", SUPPORT, desk -> desk.induct(2, 0));
        takes(() -> withNeeds(0, 1, 2, 3), "the one that needs just the last of them", -1, desk -> desk.induct(2, 2));
    }

    // ---- promise 7

    private static void isLiveReturns() {
        sentence(7, "Returns whether an induction of a member is live on a day, if the member takes no more"
                + " inductions.");
        takes(() -> Desks.with(0, 0, 1), "the day itself", true, desk -> desk.isLive(0, 0, 0));
        takes(() -> Desks.with(0, 0, 1), "29 days later", true, desk -> desk.isLive(0, 0, 29));
        takes(() -> Desks.with(0, 0, 1), "30 days later", false, desk -> desk.isLive(0, 0, 30));
        takes(() -> Desks.with(0, 0, 1), "the last day", false, desk -> desk.isLive(0, 0, 999));
        takes(() -> Desks.with(0, 0, 1), "never taken", false, desk -> desk.isLive(0, 1, 0));
        takes(() -> withOldNeeds(1), "the need's last day", true, desk -> desk.isLive(0, 1, 29));
        takes(() -> withOldNeeds(1), "the day after it", false, desk -> desk.isLive(0, 1, 30));
        asks(Desks::busy, "isLive", desk -> desk.isLive(0, 0, desk.day()));
    }

    private static void isLiveTakes() {
        sentence(7, "`member`: the number of the member");
        takes(() -> Desks.with(0, 0, 10), "member 0", true, desk -> desk.isLive(0, 0, 0));
        takes(() -> Desks.with(0, 0, 10), "member 9", true, desk -> desk.isLive(9, 0, 0));

        sentence(7, "`kind`: the kind, 0 to 3");
        for (int number = 0; number < 4; number++) {
            int kind = number;
            takes(Desks::memberOfAllKinds, "kind " + kind, true, desk -> desk.isLive(0, kind, 29));
        }

        sentence(7, "`day`: the day, from the present day on, 999 or less");
        for (int today : new int[] {0, 5, 900}) {
            takes(() -> Desks.inductedOnDay(today), "the present day", true, desk -> desk.isLive(0, 0, today));
            takes(() -> Desks.inductedOnDay(today), "day 999", false, desk -> desk.isLive(0, 0, 999));
        }
    }

    private static void isLiveRefuses() {
        sentence(7, "Throws `IndexOutOfBoundsException` if there is no such member");
        refuses(Lendlathe::new, "there are no members", INDEX, desk -> desk.isLive(0, 0, 0));
        refusesOutside(() -> Desks.with(0, 0, 1), 0, 0, INDEX, (desk, member) -> desk.isLive(member, 0, 0));
        refusesOutside(() -> Desks.with(0, 0, 10), 0, 9, INDEX, (desk, member) -> desk.isLive(member, 0, 0));

        sentence(7, "Throws `IllegalArgumentException` if the kind or the day is out of range");
        refusesOutside(Desks::memberOfAllKinds, 0, 3, RANGE, (desk, kind) -> desk.isLive(0, kind, 0));
        for (int today : new int[] {0, 5, 900}) {
            refusesOutside(() -> Desks.inductedOnDay(today), today, 999, RANGE,
                    (desk, day) -> desk.isLive(0, 0, day));
        }
        refuses(() -> Desks.inductedOnDay(5), "day 0 on day 5", RANGE, desk -> desk.isLive(0, 0, 0));
    }
}
