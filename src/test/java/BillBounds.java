/** The boundary cases of the promises 33 to 39, 41 and 42: breakages, bills, and whether the desk is sound. */
final class BillBounds extends Bounds {
    private BillBounds() {
    }

    static void run() throws ReflectiveOperationException {
        breakDown();
        breakDownNumbers();
        breakDownRefuses();
        shareOf();
        shareOfNumbers();
        shareOfRefuses();
        pay();
        payRefuses();
        owes(36, Lendlathe::owes,
                "Returns what a member owes: all dues and shares of breakages minus all that it has paid.");
        sentence(36, "It can be less than 0.");
        lessThanZero(Lendlathe::owes);
        owes(37, Lendlathe::owesByEntries, "Returns the same amount, by adding the dues of all entries of the member"
                + " and its shares of all breakages.");
        dueOf();
        takings();
        meanMinutes();
        isSound();
    }

    /** On day 1: each member has a done entry of these minutes, one directly after the other. */
    private static Lendlathe used(int... minutes) {
        Lendlathe desk = Desks.with(1, 0, minutes.length);
        desk.setRate(0, 1);
        int start = 0;
        for (int member = 0; member < minutes.length; member++) {
            desk.book(member, 0, 0, start, minutes[member], 'a');
            start += minutes[member];
        }
        desk.endDay();
        return desk;
    }

    private static Lendlathe withBreakages(int breakages) {
        Lendlathe desk = used(60, 30);
        for (int i = 0; i < breakages; i++) {
            desk.breakDown(0, 3 + 3 * i);
        }
        return desk;
    }

    // ---- promise 33

    private static Object breakDownAfter(Lendlathe desk, int days) {
        Desks.endDays(desk, days);
        return desk.breakDown(0, 9);
    }

    private static void breakDown() {
        sentence(33, "Enters a breakage of a machine on the present day.");
        refuses(() -> used(60), "no breakage before", ELEMENT, desk -> desk.shareOf(0, 0));
        takes(() -> withBreakages(1), "its share", 2, desk -> desk.shareOf(0, 0));
        takes(() -> used(60), "6 days after the first day", 60, desk -> breakDownAfter(desk, 5));
        takes(() -> used(60), "7 days after it", 60, desk -> breakDownAfter(desk, 6));
        takes(() -> used(60), "8 days after it", 0, desk -> breakDownAfter(desk, 7));

        sentence(33, "Returns the total of minutes by which it is shared.");
        takes(() -> Desks.with(1, 0, 1), "nobody has used it", 0, desk -> desk.breakDown(0, 9));
        takes(() -> Desks.with(1, 0, 0), "there is nobody", 0, desk -> desk.breakDown(0, 9));
        takes(() -> used(1), "one minute", 1, desk -> desk.breakDown(0, 9));
        takes(() -> used(240, 1, 239), "a whole day", 480, desk -> desk.breakDown(0, 9));
        takes(BillBounds::sevenDays, "seven whole days", 3360, desk -> desk.breakDown(0, 9));
    }

    private static Lendlathe sevenDays() {
        Lendlathe desk = Desks.with(1, 0, 2);
        for (int day = 0; day < 7; day++) {
            desk.book(0, 0, day, 0, 240, 'a');
            desk.book(1, 0, day, 240, 240, 'a');
        }
        Desks.endDays(desk, 7);
        return desk;
    }

    /** Member 0 has used machine 0 and member 1 machine 5. */
    private static Lendlathe sixMachines() {
        Lendlathe desk = Desks.with(6, 0, 2);
        desk.book(0, 0, 0, 0, 10, 'a');
        desk.book(1, 5, 0, 0, 20, 'a');
        desk.endDay();
        return desk;
    }

    private static void breakDownNumbers() {
        sentence(33, "`machine`: the number of the machine");
        takes(BillBounds::sixMachines, "machine 0", 10, desk -> desk.breakDown(0, 9));
        takes(BillBounds::sixMachines, "machine 1", 0, desk -> desk.breakDown(1, 9));
        takes(BillBounds::sixMachines, "machine 5", 20, desk -> desk.breakDown(5, 9));

        sentence(33, "`cost`: the cost, 1 to 100000");
        for (int cost : new int[] {1, 2, 99999, 100000}) {
            takes(() -> used(60), "the share of cost " + cost, cost, desk -> {
                desk.breakDown(0, cost);
                return desk.shareOf(0, 0);
            });
        }
    }

    private static void breakDownRefuses() {
        sentence(33, "Throws `IndexOutOfBoundsException` if there is no such machine");
        refuses(() -> Desks.with(0, 0, 1), "there are no machines", INDEX, desk -> desk.breakDown(0, 9));
        refusesOutside(() -> used(60), 0, 0, INDEX, (desk, machine) -> desk.breakDown(machine, 9));
        refusesOutside(BillBounds::sixMachines, 0, 5, INDEX, (desk, machine) -> desk.breakDown(machine, 9));

        sentence(33, "Throws `IllegalArgumentException` if the cost is out of range");
        refusesOutside(() -> used(60), 1, 100000, RANGE, (desk, cost) -> desk.breakDown(0, cost));

        sentence(33, "Throws `IllegalStateException` if there are 20 breakages");
        takes(() -> withBreakages(19), "the 20th breakage", 90, desk -> desk.breakDown(0, 100000));
        refuses(() -> withBreakages(20), "the 21st breakage", STATE, desk -> desk.breakDown(0, 1));
    }

    // ---- promise 34

    private static void shareOf() {
        sentence(34, "Returns what a member owes for a breakage.");
        takes(() -> withBreakages(1), "two thirds", 2, desk -> desk.shareOf(0, 0));
        takes(() -> withBreakages(1), "a third", 1, desk -> desk.shareOf(0, 1));
        asks(Desks::busy, "shareOf", desk -> desk.shareOf(0, 0));

        sentence(34, "Returns the amount, 0 for a member who was added later.");
        takes(() -> withBreakages(1), "a later member", 0, desk -> desk.shareOf(0, desk.addMember()));
        takes(() -> withBreakages(1), "it owes nothing", 0, desk -> desk.owes(desk.addMember()));
        takes(() -> withBreakages(1), "the last one of ten", 0, desk -> {
            for (int member = 2; member < 10; member++) {
                desk.addMember();
            }
            return desk.shareOf(0, 9);
        });
        takes(() -> withBreakages(1), "one who was there, but did not use it", 0, desk -> {
            desk.breakDown(0, desk.addMember() + 1);
            return desk.shareOf(1, 2);
        });
    }

    private static void shareOfNumbers() {
        sentence(34, "`breakage`: the number of the breakage; they have the numbers 0, 1, 2 and so on");
        for (int number = 0; number < 20; number++) {
            int breakage = number;
            takes(() -> withBreakages(20), "breakage " + breakage, breakage + 1, desk -> desk.shareOf(breakage, 1));
        }

        sentence(34, "`member`: the number of the member");
        int[] minutes = {1, 2, 3, 4, 5, 6, 7, 8, 9, 10};
        for (int number = 0; number < 10; number++) {
            int member = number;
            takes(() -> used(minutes), "member " + member, 10 * (member + 1), desk -> {
                desk.breakDown(0, 550);
                return desk.shareOf(0, member);
            });
        }
    }

    private static void shareOfRefuses() {
        sentence(34, "Throws `NoSuchElementException` if there is no such breakage");
        refuses(() -> used(60), "there are no breakages", ELEMENT, desk -> desk.shareOf(0, 0));
        refusesOutside(() -> withBreakages(1), 0, 0, ELEMENT, (desk, breakage) -> desk.shareOf(breakage, 0));
        refusesOutside(() -> withBreakages(20), 0, 19, ELEMENT, (desk, breakage) -> desk.shareOf(breakage, 0));

        sentence(34, "Throws `IndexOutOfBoundsException` if there is no such member");
        refusesOutside(() -> withBreakages(1), 0, 1, INDEX, (desk, member) -> desk.shareOf(0, member));
        refuses(BillBounds::breakageOfNobody, "there are no members", INDEX, desk -> desk.shareOf(0, 0));
    }

    private static Lendlathe breakageOfNobody() {
        Lendlathe desk = Desks.with(1, 0, 0);
        desk.breakDown(0, 9);
        return desk;
    }

    // ---- promise 35

    /** Member 0 has paid so much, in as few payments as there can be. */
    private static Lendlathe paid(int sum) {
        Lendlathe desk = Desks.with(0, 0, 2);
        int left = sum;
        while (left > 0) {
            int amount = Math.min(left, 1000000);
            desk.pay(0, amount);
            left -= amount;
        }
        return desk;
    }

    private static void pay() {
        sentence(35, "Enters what a member pays.");
        takes(() -> paid(5), "what it owes", -5, desk -> desk.owes(0));
        takes(() -> paid(5), "what another one owes", 0, desk -> desk.owes(1));
        takes(() -> paid(5), "what all paid", 5L, Lendlathe::takings);

        sentence(35, "`member`: the number of the member");
        takes(() -> Desks.with(0, 0, 10), "member 0", -1, desk -> desk.pay(0, 1));
        takes(() -> Desks.with(0, 0, 10), "member 9", -1, desk -> desk.pay(9, 1));

        sentence(35, "`amount`: the amount, 1 to 1000000");
        for (int amount : new int[] {1, 2, 999999, 1000000}) {
            takes(() -> paid(0), "amount " + amount, -amount, desk -> desk.pay(0, amount));
        }

        sentence(35, "Returns what the member owes after the call.");
        takes(() -> used(60), "more is owed", 1, desk -> desk.pay(0, 59));
        takes(() -> used(60), "nothing is owed", 0, desk -> desk.pay(0, 60));
        takes(() -> used(60), "too much was paid", -1, desk -> desk.pay(0, 61));
        takes(() -> paid(999999999), "the least that can be owed", -1000000000, desk -> desk.pay(0, 1));
    }

    private static void payRefuses() {
        sentence(35, "Throws `IndexOutOfBoundsException` if there is no such member");
        refuses(Lendlathe::new, "there are no members", INDEX, desk -> desk.pay(0, 1));
        refusesOutside(() -> paid(5), 0, 1, INDEX, (desk, member) -> desk.pay(member, 1));

        sentence(35, "Throws `IllegalArgumentException` if the amount is out of range");
        refusesOutside(() -> paid(5), 1, 1000000, RANGE, (desk, amount) -> desk.pay(0, amount));

        sentence(35, "Throws `IllegalStateException` if the sum of all that the member has paid would be greater than"
                + " 1000000000");
        takes(() -> paid(999999999), "the sum is just enough", -1000000000, desk -> desk.pay(0, 1));
        refuses(() -> paid(999999999), "the sum is 1 too much", STATE, desk -> desk.pay(0, 2));
        takes(() -> paid(999000000), "just enough", -1000000000, desk -> desk.pay(0, 1000000));
        refuses(() -> paid(999000001), "1 too much", STATE, desk -> desk.pay(0, 1000000));
        refuses(() -> paid(1000000000), "all is paid", STATE, desk -> desk.pay(0, 1));
        refuses(() -> paid(1000000000), "all is paid", STATE, desk -> desk.pay(0, 1000000));
        takes(() -> paid(1000000000), "another member's sum", -1000000, desk -> desk.pay(1, 1000000));
    }

    // ---- promises 36 and 37

    private interface Owed {
        int on(Lendlathe desk, int member);
    }

    private static void owes(int promise, Owed owed, String returns) {
        sentence(promise, returns);
        takes(() -> used(60), "a due", 60, desk -> owed.on(desk, 0));
        takes(() -> withBreakages(1), "a due and a share", 62, desk -> owed.on(desk, 0));
        takes(() -> withBreakages(20), "a due and 20 shares", 60 + 420, desk -> owed.on(desk, 0));
        takes(() -> withBreakages(1), "all is paid", 0, desk -> {
            desk.pay(0, 40);
            desk.pay(0, 22);
            return owed.on(desk, 0);
        });
        takes(() -> withBreakages(1), "a cancelled entry's due, too", 67, desk -> {
            desk.cancel(desk.book(0, 0, 1, 0, 11, 'a'));
            return owed.on(desk, 0);
        });
        takes(() -> withBreakages(1), "a member without entries", 0, desk -> owed.on(desk, desk.addMember()));
        takes(BillBounds::greatestDues, "as much as 150 entries can be due", 150 * 760320, desk -> owed.on(desk, 0));
        lessThanZero(owed);
        asks(Desks::busy, "the question", desk -> owed.on(desk, 0));

        sentence(promise, "`member`: the number of the member");
        takes(() -> used(1, 2, 3, 4, 5, 6, 7, 8, 9, 10), "member 0", 1, desk -> owed.on(desk, 0));
        takes(() -> used(1, 2, 3, 4, 5, 6, 7, 8, 9, 10), "member 9", 10, desk -> owed.on(desk, 9));

        sentence(promise, "Throws `IndexOutOfBoundsException` if there is no such member");
        refuses(Lendlathe::new, "there are no members", INDEX, desk -> owed.on(desk, 0));
        refusesOutside(() -> used(60, 30), 0, 1, INDEX, owed::on);
        refusesOutside(() -> Desks.with(0, 0, 10), 0, 9, INDEX, owed::on);
    }

    private static void lessThanZero(Owed owed) {
        takes(() -> paid(1), "1 was paid", -1, desk -> owed.on(desk, 0));
        takes(() -> paid(1000000000), "all was paid that can be", -1000000000, desk -> owed.on(desk, 0));
    }

    /** 150 done entries of 240 minutes by the dearest tariff. */
    private static Lendlathe greatestDues() {
        Lendlathe desk = Desks.with(1, 0, 1);
        desk.setRate(0, 99);
        for (int layer = 0; layer < 5; layer++) {
            desk.addDouble(0, 0);
        }
        for (int day = 0; day < 75; day++) {
            desk.induct(0, 0);
            desk.book(0, 0, day, 0, 240, 'a');
            desk.book(0, 0, day, 240, 240, 'a');
            desk.endDay();
        }
        return desk;
    }

    // ---- promise 38

    private static Object dueAfterCancel(Lendlathe desk, int entry) {
        desk.cancel(entry);
        return desk.dueOf(entry);
    }

    private static void dueOf() {
        sentence(38, "Returns the due of an entry.");
        takes(() -> used(60), "a done entry", 60, desk -> desk.dueOf(0));
        asks(Desks::busy, "dueOf", desk -> desk.dueOf(0));

        sentence(38, "`entry`: the number of the entry");
        takes(() -> used(1, 2, 3), "entry 0", 1, desk -> desk.dueOf(0));
        takes(() -> used(1, 2, 3), "entry 2", 3, desk -> desk.dueOf(2));
        takes(BillBounds::greatestDues, "entry 149", 760320, desk -> desk.dueOf(149));

        sentence(38, "Returns what its member owes for it, 0 while it is waiting or booked.");
        takes(Desks::busy, "a lapsed entry", 0, desk -> desk.dueOf(1));
        takes(Desks::busy, "a booked entry for the present day", 0, desk -> desk.dueOf(2));
        takes(Desks::busy, "a waiting entry", 0, desk -> desk.dueOf(3));
        takes(Desks::busy, "a booked entry for a later day", 0, desk -> desk.dueOf(4));
        takes(Desks::busy, "half of 67 for one that was cancelled on its day", 33, desk -> desk.dueOf(5));
        takes(Desks::busy, "half of 217 for one that is cancelled now", 108, desk -> dueAfterCancel(desk, 2));
        takes(Desks::busy, "one that is cancelled while it waits", 0, desk -> dueAfterCancel(desk, 3));
        takes(Desks::busy, "one that is cancelled before its day", 0, desk -> dueAfterCancel(desk, 4));

        sentence(38, "Throws `NoSuchElementException` if there is no such entry");
        refuses(Lendlathe::new, "there are no entries", ELEMENT, desk -> desk.dueOf(0));
        refusesOutside(Desks::busy, 0, 5, ELEMENT, Lendlathe::dueOf);
        refusesOutside(BillBounds::greatestDues, 0, 149, ELEMENT, Lendlathe::dueOf);
    }

    // ---- promises 39, 41 and 42

    private static void takings() {
        sentence(39, "Returns the sum of what was paid by all members.");
        takes(Lendlathe::new, "no members", 0L, Lendlathe::takings);
        takes(() -> used(60), "nothing was paid", 0L, Lendlathe::takings);
        takes(() -> paid(5), "one payment", 5L, Lendlathe::takings);
        takes(() -> paid(1000000000), "all that one can pay", 1000000000L, Lendlathe::takings);
        takes(() -> paid(1000000000), "all that ten can pay, more than an int holds", 10000000000L, desk -> {
            for (int member = 1; member < 10; member++) {
                int payer = member == 1 ? 1 : desk.addMember();
                for (int i = 0; i < 1000; i++) {
                    desk.pay(payer, 1000000);
                }
            }
            return desk.takings();
        });
        asks(Desks::busy, "takings()", Lendlathe::takings);
    }

    private static void meanMinutes() {
        sentence(41, "Returns the mean number of minutes of the done entries.");
        takes(() -> used(1), "the least", 1.0, Lendlathe::meanMinutes);
        takes(() -> used(240), "the greatest", 240.0, Lendlathe::meanMinutes);
        takes(Desks::busy, "other entries do not count", 60.0, Lendlathe::meanMinutes);
        takes(BillBounds::greatestDues, "150 entries", 240.0, Lendlathe::meanMinutes);

        sentence(41, "Returns the sum of their minutes divided by their number, both converted to double.");
        takes(() -> used(1, 2), "a half", 1.5, Lendlathe::meanMinutes);
        takes(() -> used(1, 1, 2), "a third", 4.0 / 3.0, Lendlathe::meanMinutes);
        takes(() -> used(7, 1, 1, 1, 1, 1, 1), "a seventh", 13.0 / 7.0, Lendlathe::meanMinutes);

        sentence(41, "Throws `ArithmeticException` if no entry is done");
        refuses(Lendlathe::new, "there are no entries", ARITHMETIC, Lendlathe::meanMinutes);
        refuses(BillBounds::noneIsDone, "booked, waiting and cancelled", ARITHMETIC, Lendlathe::meanMinutes);
        takes(BillBounds::noneIsDone, "one is done", 10.0, desk -> {
            desk.endDay();
            return desk.meanMinutes();
        });
    }

    private static Lendlathe noneIsDone() {
        Lendlathe desk = Desks.with(2, 0, 1);
        desk.book(0, 0, 0, 0, 20, 'a');
        desk.await(0, 1, 0, 0, 20, 'a');
        desk.await(0, 1, 0, 0, 20, 'b');
        desk.addNeed(0, 1);
        desk.induct(0, 1);
        desk.induct(0, 0);
        desk.book(0, 0, 1, 0, 10, 'a');
        desk.await(0, 1, 1, 0, 20, 'a');
        desk.endDay();
        return desk;
    }

    private static void isSound() throws ReflectiveOperationException {
        sentence(42, "Checks whether no booked entry lacks a live induction of its member, no two booked entries of a"
                + " member or of a machine overlap, no waiting entry can be booked, both ways of free lengths and of"
                + " what members owe agree, and usedMinutes() and usedByMinutes() agree for each machine and each day"
                + " from the present one to 6 days later.");
        SoundTest.spoilEachThing();
        takes(Lendlathe::new, "an empty desk", true, Lendlathe::isSound);
        takes(Desks::busy, "a busy desk", true, Lendlathe::isSound);
        takes(BillBounds::greatestDues, "a full desk", true, Lendlathe::isSound);
        takes(() -> withBreakages(20), "all breakages", true, Lendlathe::isSound);
        takes(() -> Desks.onDay(900), "the last day", true, Lendlathe::isSound);
        asks(Desks::busy, "isSound()", Lendlathe::isSound);
    }
}
