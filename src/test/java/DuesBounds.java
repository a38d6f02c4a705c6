/** The boundary cases of the section "Terms", its paragraphs "Bars", "Tariffs", "Dues" and "Breakages". */
final class DuesBounds extends Bounds {
    private static final int TERMS = Sentences.TERMS;

    private DuesBounds() {
    }

    static void run() {
        bars();
        cuts();
        cutsEnd();
        cutsStay();
        tariffs();
        layers();
        duesOfDone();
        duesOfCuts();
        duesOfCancelled();
        breakages();
        breakageDays();
        breakageMinutes();
        breakageShares();
        breakageRests();
        breakageOfNobody();
    }

    // ---- bars

    /** Bars of 100, of the materials 0, 1, 2, 0, 1 and so on, and two booked entries, for day 0 and day 1. */
    private static Lendlathe withBars(int bars) {
        Lendlathe desk = Desks.with(1, 0, 1);
        desk.book(0, 0, 0, 0, 60, 'a');
        desk.book(0, 0, 1, 0, 60, 'a');
        for (int bar = 0; bar < bars; bar++) {
            desk.deliver(bar % 3, 100);
        }
        return desk;
    }

    private static void bars() {
        sentence(TERMS, "At most 30 bars have the numbers 0, 1, 2 and so on.");
        for (int number : new int[] {0, 1, 29}) {
            takes(() -> withBars(number), "deliver", number, desk -> desk.deliver(0, 50));
            takes(() -> withBars(number), "its number stands for it", 50, desk -> {
                desk.deliver(0, 50);
                return desk.freeOf(number);
            });
        }
        refuses(() -> withBars(30), "a bar more", STATE, desk -> desk.deliver(0, 50));
        refuses(() -> withBars(30), "bar 30", ELEMENT, desk -> desk.freeOf(30));

        sentence(TERMS, "A bar has a material, 0 to 2, and a free length in millimetres.");
        for (int number = 0; number < 3; number++) {
            int material = number;
            takes(() -> withBars(3), "the bar of material " + material, material, desk -> desk.cut(0, material, 97));
        }
        refuses(() -> withBars(3), "material -1", RANGE, desk -> desk.deliver(-1, 50));
        refuses(() -> withBars(3), "material 3", RANGE, desk -> desk.deliver(3, 50));
        takes(() -> withBars(3), "all of it", 100, desk -> desk.freeOf(0));
    }

    private static Object freeAfterCut(Lendlathe desk, int length) {
        desk.cut(0, 0, length);
        return desk.freeOf(0);
    }

    private static void cuts() {
        sentence(TERMS, "A cut belongs to a booked entry; it has a length and a bar, and takes 3 millimetres more than"
                + " its length from the free length of the bar.");
        takes(() -> withBars(1), "a cut of 1", 96, desk -> freeAfterCut(desk, 1));
        takes(() -> withBars(1), "a cut of 96", 1, desk -> freeAfterCut(desk, 96));
        takes(() -> withBars(1), "a cut of 97", 0, desk -> freeAfterCut(desk, 97));
        refuses(() -> withBars(1), "a cut of 98", SUPPORT, desk -> desk.cut(0, 0, 98));
        refuses(Desks::busy, "a waiting entry", STATE, desk -> desk.cut(3, 0, 1));
        refuses(Desks::busy, "a done entry", STATE, desk -> desk.cut(0, 0, 1));
        takes(() -> withBars(4), "the other bar of the material", 100, desk -> {
            desk.cut(0, 0, 50);
            return desk.freeOf(3);
        });
    }

    /** Entry 0 has cuts of bars 0 and 1, entry 1 of bar 0. */
    private static Lendlathe withThreeCuts() {
        Lendlathe desk = withBars(3);
        desk.cut(0, 0, 7);
        desk.cut(0, 1, 17);
        desk.cut(1, 0, 27);
        return desk;
    }

    private static void hasFree(String when, Lendlathe desk, int... lengths) {
        for (int bar = 0; bar < lengths.length; bar++) {
            Expect.equal("freeOf " + bar + " " + when, lengths[bar], desk.freeOf(bar));
            Expect.equal("freeByCuts " + bar + " " + when, lengths[bar], desk.freeByCuts(bar));
        }
    }

    private static void cutsEnd() {
        sentence(TERMS, "When a booked entry is cancelled, its cuts end, and what they took is free again.");
        Lendlathe desk = withThreeCuts();
        hasFree("at first", desk, 60, 80, 100);
        desk.cancel(0);
        hasFree("after the present day's entry is cancelled", desk, 70, 100, 100);
        desk.cancel(1);
        hasFree("after the next day's entry is cancelled", desk, 100, 100, 100);
        Lendlathe need = withThreeCuts();
        need.addNeed(0, 1);
        hasFree("after both are cancelled for a need", need, 100, 100, 100);
        takes(DuesBounds::withThreeCuts, "what is free again can be cut", 0, one -> {
            one.cancel(0);
            one.cancel(1);
            return one.cut(one.book(0, 0, 0, 0, 60, 'a'), 0, 97);
        });
        takes(DuesBounds::withThreeCuts, "the ended cuts do not count among the 5", 0, one -> {
            one.cancel(0);
            int entry = one.book(0, 0, 0, 0, 60, 'a');
            for (int cut = 0; cut < 4; cut++) {
                one.cut(entry, 0, 1);
            }
            return one.cut(entry, 0, 1);
        });
    }

    private static void cutsStay() {
        sentence(TERMS, "When it is done, its cuts stay for ever.");
        Lendlathe desk = withThreeCuts();
        desk.endDay();
        hasFree("after the first day", desk, 60, 80, 100);
        desk.cancel(1);
        hasFree("after the other entry is cancelled", desk, 90, 80, 100);
        Desks.endDays(desk, 899);
        hasFree("on the last day", desk, 90, 80, 100);
    }

    // ---- tariffs

    private static void tariffs() {
        sentence(TERMS, "A kind has a tariff, which tells what a number of minutes costs.");
        Lendlathe desk = new Lendlathe();
        for (int kind = 0; kind < 4; kind++) {
            desk.setRate(kind, kind + 1);
        }
        for (int kind = 0; kind < 4; kind++) {
            Expect.equal("0 minutes", 0, desk.costOf(kind, 0));
            Expect.equal("480 minutes", 480 * (kind + 1), desk.costOf(kind, 480));
        }

        sentence(TERMS, "It has one layer or more; at first it has one layer, by which everything costs 0.");
        for (int number = 0; number < 4; number++) {
            int kind = number;
            takes(Lendlathe::new, "0 minutes", 0, one -> one.costOf(kind, 0));
            takes(Lendlathe::new, "1 minute", 0, one -> one.costOf(kind, 1));
            takes(Lendlathe::new, "480 minutes", 0, one -> one.costOf(kind, 480));
            takes(Lendlathe::new, "the layers", 1, one -> one.setRate(kind, 5));
            takes(Lendlathe::new, "a layer on it", 7, one -> {
                one.addFee(kind, 7);
                return one.costOf(kind, 480);
            });
        }
    }

    private static void layers() {
        sentence(TERMS, "A layer that is added is put on top of the tariff as it is then.");
        Lendlathe desk = new Lendlathe();
        desk.setRate(0, 1);
        desk.addCap(0, 50);
        desk.addFee(0, 10);
        Expect.equal("a fee on a cap", 60, desk.costOf(0, 480));
        desk.addCap(0, 55);
        Expect.equal("a cap on the fee", 55, desk.costOf(0, 480));
        desk.setRate(0, 2);
        Expect.equal("a new rate takes all layers away", 960, desk.costOf(0, 480));
        desk.addFee(0, 1);
        Expect.equal("a layer on the new rate", 961, desk.costOf(0, 480));

        sentence(TERMS, "There are at most 6 layers.");
        takes(() -> withFees(5), "the sixth", 6, one -> one.addDouble(0, 1));
        refuses(() -> withFees(6), "a seventh fee", STATE, one -> one.addFee(0, 1));
        refuses(() -> withFees(6), "a seventh cap", STATE, one -> one.addCap(0, 1));
        refuses(() -> withFees(6), "a seventh doubling", STATE, one -> one.addDouble(0, 1));
        refuses(() -> withFees(6), "a seventh discount", STATE, one -> one.addDiscount(0, 1));
        takes(() -> withFees(6), "all six count", 50, one -> one.costOf(0, 0));

        sentence(TERMS, "A tariff is asked for a number of minutes by asking its top layer.");
        Lendlathe top = new Lendlathe();
        top.setRate(0, 1);
        top.addDouble(0, 100);
        top.addDouble(0, 60);
        Expect.equal("at the top layer's bound", 60, top.costOf(0, 60));
        Expect.equal("beyond it, then at the bound of the layer below", 100, top.costOf(0, 80));
        Expect.equal("beyond both", 104, top.costOf(0, 81));
        top.addCap(0, 103);
        Expect.equal("the top layer answers last", 103, top.costOf(0, 81));
    }

    private static Lendlathe withFees(int layers) {
        Lendlathe desk = new Lendlathe();
        for (int layer = 1; layer < layers; layer++) {
            desk.addFee(0, 10);
        }
        return desk;
    }

    // ---- dues

    private static Object dueAfterDay(Lendlathe desk, int entry) {
        desk.endDay();
        return desk.dueOf(entry);
    }

    private static void duesOfDone() {
        sentence(TERMS, "When an entry becomes done, its member owes what the tariff of the kind of the machine then"
                + " tells for its minutes, and for each of its cuts the length of the cut times the price of the"
                + " material of its bar then, divided by 100 and rounded up to a whole number.");
        Lendlathe desk = Desks.with(1, 0, 2);
        desk.addMachine(1, 0);
        desk.induct(1, 1);
        desk.setRate(0, 1);
        desk.setRate(1, 2);
        desk.book(0, 0, 0, 0, 240, 'a');
        desk.book(1, 1, 0, 0, 1, 'a');
        desk.book(0, 0, 1, 0, 10, 'a');
        desk.setRate(0, 3);
        Expect.equal("nothing before the day ends", 0, desk.owes(0));
        desk.endDay();
        desk.setRate(0, 9);
        Expect.equal("the tariff at the end of its day", 720, desk.dueOf(0));
        Expect.equal("the tariff of the other kind", 2, desk.dueOf(1));
        Expect.equal("its member", 720, desk.owes(0));
        Expect.equal("its member", 2, desk.owes(1));
        desk.endDay();
        Expect.equal("the tariff at the end of the next day", 90, desk.dueOf(2));
        Expect.equal("both", 810, desk.owes(0));
    }

    /** A booked entry with cuts of these lengths, each of a bar of its own of material 0, which has this price. */
    private static Lendlathe withCuts(int price, int... lengths) {
        Lendlathe desk = withBars(0);
        desk.setPrice(0, price);
        for (int length : lengths) {
            desk.deliver(0, length + 3);
            desk.cut(0, 0, length);
        }
        return desk;
    }

    private static void duesOfCuts() {
        takes(() -> withCuts(1, 99), "0.99", 1, desk -> dueAfterDay(desk, 0));
        takes(() -> withCuts(1, 100), "1.00", 1, desk -> dueAfterDay(desk, 0));
        takes(() -> withCuts(1, 101), "1.01", 2, desk -> dueAfterDay(desk, 0));
        takes(() -> withCuts(1, 1), "0.01", 1, desk -> dueAfterDay(desk, 0));
        takes(() -> withCuts(0, 4997), "a price of 0", 0, desk -> dueAfterDay(desk, 0));
        takes(() -> withCuts(99, 4997), "4947.03", 4948, desk -> dueAfterDay(desk, 0));
        takes(() -> withCuts(1, 1, 1, 1, 1, 1), "5 cuts, each rounded by itself", 5, desk -> dueAfterDay(desk, 0));
        takes(() -> withCuts(5, 100), "the price at the end of the day", 9, desk -> {
            desk.setPrice(0, 9);
            return dueAfterDay(desk, 0);
        });
        takes(() -> withCuts(5, 100), "a price after it", 5, desk -> {
            desk.endDay();
            desk.setPrice(0, 9);
            return desk.dueOf(0);
        });
        takes(() -> withCuts(5, 100), "the price of another material", 5, desk -> {
            desk.setPrice(1, 9);
            return dueAfterDay(desk, 0);
        });
        takes(() -> withCuts(5, 100), "the time, too", 65, desk -> {
            desk.setRate(0, 1);
            return dueAfterDay(desk, 0);
        });
    }

    /** The due of an entry of so many minutes, booked for a day and cancelled on day 0, by a rate of 1. */
    private static Object dueOfCancelled(Lendlathe desk, int day, int minutes) {
        desk.setRate(0, 1);
        int entry = desk.book(0, 0, day, 100, minutes, 'a');
        desk.cancel(entry);
        return desk.dueOf(entry);
    }

    private static void duesOfCancelled() {
        sentence(TERMS, "When a booked entry for the present day is cancelled by a call of cancel(), its member owes"
                + " half of what the tariff of the kind of the machine then tells for its minutes, rounded down.");
        takes(() -> withBars(0), "half of 1", 0, desk -> dueOfCancelled(desk, 0, 1));
        takes(() -> withBars(0), "half of 2", 1, desk -> dueOfCancelled(desk, 0, 2));
        takes(() -> withBars(0), "half of 3", 1, desk -> dueOfCancelled(desk, 0, 3));
        takes(() -> withBars(0), "half of 240", 120, desk -> dueOfCancelled(desk, 0, 240));
        takes(() -> withBars(0), "the next day", 0, desk -> dueOfCancelled(desk, 1, 240));
        takes(() -> withBars(0), "6 days later", 0, desk -> dueOfCancelled(desk, 6, 240));
        takes(() -> withCuts(99, 4997), "its cuts cost nothing", 30, desk -> {
            desk.setRate(0, 1);
            desk.cancel(0);
            return desk.owes(0);
        });
        takes(() -> withBars(0), "the tariff at the time of the call", 90, desk -> {
            desk.setRate(0, 3);
            desk.cancel(0);
            desk.setRate(0, 9);
            return desk.owes(0);
        });
        takes(() -> withBars(0), "not by a call of addNeed()", 0, desk -> {
            desk.setRate(0, 3);
            desk.addNeed(0, 1);
            return desk.owes(0);
        });
        takes(() -> withBars(0), "not a waiting entry", 0, desk -> {
            desk.setRate(0, 3);
            desk.cancel(desk.await(0, 0, 0, 0, 60, 'a'));
            return desk.owes(0);
        });
        takes(() -> withBars(0), "one for the day that has come", 90, desk -> {
            desk.endDay();
            desk.setRate(0, 3);
            desk.cancel(1);
            return desk.owes(0);
        });
    }

    // ---- breakages

    /** On day 1: each member has used the machine on day 0 for these minutes. */
    private static Lendlathe used(int... minutes) {
        Lendlathe desk = Desks.with(2, 0, minutes.length);
        int start = 0;
        for (int member = 0; member < minutes.length; member++) {
            if (minutes[member] > 0) {
                desk.book(member, 0, 0, start, minutes[member], 'a');
                start += minutes[member];
            }
        }
        desk.endDay();
        return desk;
    }

    private static Lendlathe withBreakages(int breakages) {
        Lendlathe desk = used(60);
        for (int i = 0; i < breakages; i++) {
            desk.breakDown(i % 2, 1);
        }
        return desk;
    }

    private static void breakages() {
        sentence(TERMS, "At most 20 breakages are entered.");
        takes(() -> withBreakages(19), "the 20th", 0, desk -> desk.breakDown(1, 100000));
        takes(() -> withBreakages(19), "its number", 100000, desk -> {
            desk.breakDown(0, 100000);
            return desk.shareOf(19, 0);
        });
        refuses(() -> withBreakages(20), "the 21st", STATE, desk -> desk.breakDown(0, 1));
        refuses(() -> withBreakages(20), "the 21st, of another machine", STATE, desk -> desk.breakDown(1, 1));
        refuses(() -> withBreakages(20), "breakage 20", ELEMENT, desk -> desk.shareOf(20, 0));
    }

    private static Object totalAfter(Lendlathe desk, int days) {
        Desks.endDays(desk, days);
        return desk.breakDown(0, 5);
    }

    private static void breakageDays() {
        sentence(TERMS, "The cost of a breakage is shared by the members who have done entries for the machine whose"
                + " day is one of the seven days before the present one.");
        takes(() -> used(60), "1 day before", 60, desk -> totalAfter(desk, 0));
        takes(() -> used(60), "7 days before", 60, desk -> totalAfter(desk, 6));
        takes(() -> used(60), "8 days before", 0, desk -> totalAfter(desk, 7));
        takes(() -> used(60), "the share after 7 days", 5, desk -> {
            totalAfter(desk, 6);
            return desk.shareOf(0, 0);
        });
        takes(() -> used(60), "the share after 8 days", 0, desk -> {
            totalAfter(desk, 7);
            return desk.shareOf(0, 0);
        });
        takes(() -> used(60), "an entry of the present day", 60, desk -> {
            desk.book(0, 0, 1, 0, 30, 'a');
            return desk.breakDown(0, 5);
        });
        takes(() -> used(60), "a cancelled entry", 60, desk -> {
            desk.cancel(desk.book(0, 0, 1, 0, 30, 'a'));
            return totalAfter(desk, 1);
        });
        takes(() -> used(60), "a lapsed entry", 90, desk -> {
            desk.book(0, 0, 1, 0, 30, 'a');
            desk.await(0, 0, 1, 0, 25, 'a');
            return totalAfter(desk, 1);
        });
        takes(() -> used(60), "another machine", 0, desk -> desk.breakDown(1, 5));
    }

    /** On day 2: members 0 and 1 have used machine 0 on both days, member 0 machine 1, too. */
    private static Lendlathe usedTwice() {
        Lendlathe desk = Desks.with(2, 0, 3);
        desk.book(0, 0, 0, 0, 10, 'a');
        desk.book(0, 0, 0, 100, 5, 'a');
        desk.book(0, 1, 0, 200, 100, 'a');
        desk.book(1, 0, 0, 10, 3, 'a');
        desk.book(0, 0, 1, 0, 1, 'a');
        desk.book(1, 0, 1, 10, 1, 'a');
        Desks.endDays(desk, 2);
        return desk;
    }

    private static void breakageMinutes() {
        sentence(TERMS, "The minutes of a member are the minutes of all these entries of this member; the total is the"
                + " sum of the minutes of all members.");
        takes(DuesBounds::usedTwice, "the total", 20, desk -> desk.breakDown(0, 20));
        takes(() -> used(1), "the least total", 1, desk -> desk.breakDown(0, 20));
        takes(() -> used(240, 240), "a whole day", 480, desk -> desk.breakDown(0, 20));
        int[] minutes = {16, 4, 0};
        for (int number = 0; number < 3; number++) {
            int member = number;
            takes(DuesBounds::usedTwice, "the minutes of member " + member, minutes[member], desk -> {
                desk.breakDown(0, 20);
                return desk.shareOf(0, member);
            });
        }
    }

    private static void shares(int[] minutes, int cost, int... dues) {
        Lendlathe desk = used(minutes);
        desk.breakDown(0, cost);
        int sum = 0;
        for (int member = 0; member < dues.length; member++) {
            Expect.equal("the share of " + member + " of cost " + cost, dues[member], desk.shareOf(0, member));
            Expect.equal("what it owes", dues[member], desk.owes(member));
            sum += desk.shareOf(0, member);
        }
        Expect.equal("the shares together", cost, sum);
    }

    private static void breakageShares() {
        sentence(TERMS, "Each member owes the cost times its minutes divided by the total, rounded down.");
        shares(new int[] {1}, 1, 1);
        shares(new int[] {1}, 100000, 100000);
        shares(new int[] {30, 10}, 4, 3, 1);
        shares(new int[] {30, 10}, 100000, 75000, 25000);
        shares(new int[] {0, 10}, 7, 0, 7);
        shares(new int[] {239, 240, 1}, 479, 239, 239, 1);
        shares(new int[] {240, 239, 1}, 100000, 50000, 49792, 208);
    }

    private static void breakageRests() {
        sentence(TERMS, "What is left of the cost is then given out one by one, each one to another member: to those"
                + " whose cost times minutes leaves the greatest remainder when it is divided by the total, and of"
                + " members with the same remainder to the lowest-numbered ones first.");
        shares(new int[] {10, 10, 10}, 1, 1, 0, 0);
        shares(new int[] {10, 10, 10}, 2, 1, 1, 0);
        shares(new int[] {10, 10, 10}, 3, 1, 1, 1);
        shares(new int[] {10, 10, 10}, 4, 2, 1, 1);
        shares(new int[] {1, 2, 3}, 10, 2, 3, 5);
        shares(new int[] {3, 2, 1}, 10, 5, 3, 2);
        shares(new int[] {1, 1, 1, 4}, 5, 1, 1, 0, 3);
        shares(new int[] {4, 1, 1, 1}, 5, 3, 1, 1, 0);
        shares(new int[] {1, 2, 1, 2}, 1, 0, 1, 0, 0);
        shares(new int[] {1, 2, 1, 2}, 2, 0, 1, 0, 1);
        shares(new int[] {1, 3, 3}, 1, 0, 1, 0);
        shares(new int[] {0, 5, 0, 5}, 3, 0, 2, 0, 1);
        shares(new int[] {1, 1, 1, 1, 1, 1, 1, 1, 1, 1}, 9, 1, 1, 1, 1, 1, 1, 1, 1, 1, 0);
        shares(new int[] {1, 1, 1, 1, 1, 1, 1, 1, 1, 1}, 11, 2, 1, 1, 1, 1, 1, 1, 1, 1, 1);
        shares(new int[] {10, 9, 8, 7, 6, 5, 4, 3, 2, 1}, 1, 1, 0, 0, 0, 0, 0, 0, 0, 0, 0);
    }

    private static void breakageOfNobody() {
        sentence(TERMS, "If the total is 0, nobody owes anything for it.");
        Lendlathe desk = used(60, 60);
        Expect.equal("the total", 0, desk.breakDown(1, 100000));
        for (int member = 0; member < 2; member++) {
            Expect.equal("the share", 0, desk.shareOf(0, member));
            Expect.equal("owes", 0, desk.owes(member));
            Expect.equal("owesByEntries", 0, desk.owesByEntries(member));
        }
        Expect.equal("it counts as a breakage all the same", 120, desk.breakDown(0, 2));
        Expect.equal("the next breakage's share", 1, desk.shareOf(1, 1));
        takes(() -> Desks.with(1, 0, 0), "a desk without members", 0, one -> one.breakDown(0, 1));
    }
}
