/** The boundary cases of the promises 22 to 25: bars and cuts. */
final class BarBounds extends Bounds {
    private BarBounds() {
    }

    static void run() {
        deliverTakes();
        deliverRefuses();
        cutTakes();
        cutChooses();
        cutNumbers();
        cutRefusesNumbers();
        cutRefusesStates();
        cutRefusesBars();
        freeOf();
        freeByCuts();
    }

    /** Bars of material 0 with these lengths, and a booked entry of each of two members. */
    private static Lendlathe withBars(int... lengths) {
        Lendlathe desk = Desks.with(1, 0, 2);
        desk.book(0, 0, 0, 0, 60, 'a');
        desk.book(1, 0, 0, 60, 60, 'a');
        for (int length : lengths) {
            desk.deliver(0, length);
        }
        return desk;
    }

    private static Lendlathe withManyBars(int bars) {
        Lendlathe desk = withBars();
        for (int bar = 0; bar < bars; bar++) {
            desk.deliver(bar % 3, 4000 + bar);
        }
        return desk;
    }

    // ---- promise 22

    private static void deliverTakes() {
        sentence(22, "Adds a bar, all of which is free.");
        for (int length : new int[] {1, 2, 3, 4, 4999, 5000}) {
            takes(() -> withBars(length), "freeOf", length, desk -> desk.freeOf(0));
            takes(() -> withBars(length), "freeByCuts", length, desk -> desk.freeByCuts(0));
        }

        sentence(22, "`material`: the material, 0 to 2");
        for (int number = 0; number < 3; number++) {
            int material = number;
            takes(BarBounds::withBars, "material " + material, 0, desk -> desk.deliver(material, 10));
            takes(() -> withManyBars(3), "its bar", material, desk -> desk.cut(0, material, 10));
        }

        sentence(22, "`length`: the length, 1 to 5000");
        takes(Lendlathe::new, "length 1", 0, desk -> desk.deliver(0, 1));
        takes(Lendlathe::new, "length 5000", 0, desk -> desk.deliver(0, 5000));

        sentence(22, "Returns the number of the bar.");
        for (int number = 0; number < 30; number++) {
            int bar = number;
            takes(() -> withManyBars(bar), "deliver", bar, desk -> desk.deliver(0, 7));
        }
    }

    private static void deliverRefuses() {
        sentence(22, "Throws `IllegalArgumentException` if one of them is out of range");
        refusesOutside(BarBounds::withBars, 0, 2, RANGE, (desk, material) -> desk.deliver(material, 100));
        refusesOutside(BarBounds::withBars, 1, 5000, RANGE, (desk, length) -> desk.deliver(0, length));

        sentence(22, "Throws `IllegalStateException` if there are 30 bars");
        takes(() -> withManyBars(29), "the 30th bar", 29, desk -> desk.deliver(2, 5000));
        refuses(() -> withManyBars(30), "the 31st bar", STATE, desk -> desk.deliver(0, 1));
    }

    // ---- promise 23

    private static void cutTakes() {
        sentence(23, "Adds a cut to a booked entry.");
        Lendlathe desk = withBars(100);
        desk.setPrice(0, 10);
        desk.cut(1, 0, 50);
        Expect.equal("3 more than its length is taken", 47, desk.freeOf(0));
        Expect.equal("3 more than its length is taken", 47, desk.freeByCuts(0));
        desk.endDay();
        Expect.equal("it is this entry's cut", 5, desk.dueOf(1));
        Expect.equal("it is not the other one's", 0, desk.dueOf(0));
    }

    private static void cutChooses() {
        sentence(23, "Of the bars of the material whose free length is at least 3 more than the length of the cut, it"
                + " uses the one with the least free length, and of several the lowest-numbered one.");
        takes(() -> withBars(13, 12), "just enough, not too short", 0, desk -> desk.cut(0, 0, 10));
        takes(() -> withBars(14, 13), "the least that is enough", 1, desk -> desk.cut(0, 0, 10));
        takes(() -> withBars(14, 12, 13), "the least that is enough", 2, desk -> desk.cut(0, 0, 10));
        takes(() -> withBars(20, 13, 13), "the lowest-numbered of the least", 1, desk -> desk.cut(0, 0, 10));
        takes(() -> withBars(13, 13, 13), "the lowest-numbered of all", 0, desk -> desk.cut(0, 0, 10));
        takes(() -> withBars(30, 30), "what is left counts, not the length", 1, desk -> {
            desk.cut(0, 0, 15);
            return desk.cut(0, 0, 10);
        });
        takes(() -> withBars(30, 30), "the one with less left", 0, desk -> {
            desk.cut(0, 0, 14);
            return desk.cut(0, 0, 10);
        });
        takes(() -> withBars(30, 100), "the longer one with less left", 1, desk -> {
            desk.cut(0, 0, 77);
            return desk.cut(0, 0, 10);
        });
        takes(() -> withManyBars(9), "the material counts", 2, desk -> desk.cut(0, 2, 10));
        takes(() -> withManyBars(9), "a shorter bar of another material", 5, desk -> desk.cut(0, 2, 4000));
        takes(() -> withManyBars(30), "the last bar", 29, desk -> desk.cut(0, 2, 4026));
    }

    private static void cutNumbers() {
        sentence(23, "`entry`: the number of the entry");
        takes(() -> withBars(100), "entry 0", 0, desk -> desk.cut(0, 0, 1));
        takes(() -> withBars(100), "entry 1", 0, desk -> desk.cut(1, 0, 1));

        sentence(23, "`material`: the material, 0 to 2");
        for (int number = 0; number < 3; number++) {
            int material = number;
            takes(() -> withManyBars(3), "material " + material, material, desk -> desk.cut(0, material, 1));
        }

        sentence(23, "`length`: the length, 1 to 5000");
        takes(() -> withBars(5000), "length 1", 0, desk -> desk.cut(0, 0, 1));
        takes(() -> withBars(5000), "the longest for which there can be a bar", 0, desk -> desk.cut(0, 0, 4997));
        refuses(() -> withBars(5000), "length 5000 is in range, but too long", SUPPORT,
                desk -> desk.cut(0, 0, 5000));

        sentence(23, "Returns the number of the bar.");
        for (int number = 0; number < 10; number++) {
            int place = number;
            takes(() -> withManyBars(30), "the bar", 3 * place, desk -> desk.cut(0, 0, 3997 + 3 * place));
        }
    }

    private static void cutRefusesNumbers() {
        sentence(23, "Throws `NoSuchElementException` if there is no such entry");
        refuses(Lendlathe::new, "there are no entries", ELEMENT, desk -> desk.cut(0, 0, 1));
        refusesOutside(() -> withBars(100), 0, 1, ELEMENT, (desk, entry) -> desk.cut(entry, 0, 1));

        sentence(23, "Throws `IllegalArgumentException` if the material or the length is out of range");
        refusesOutside(() -> withManyBars(3), 0, 2, RANGE, (desk, material) -> desk.cut(0, material, 1));
        refusesOutside(() -> withBars(5000), 1, 5000, RANGE, (desk, length) -> desk.cut(0, 0, length));
    }

    private static Lendlathe withCuts(int cuts) {
        Lendlathe desk = withBars(100, 200);
        for (int cut = 0; cut < cuts; cut++) {
            desk.cut(0, 0, 1);
        }
        return desk;
    }

    private static void cutRefusesStates() {
        sentence(23, "Throws `IllegalStateException` if the entry is not booked, or has 5 cuts");
        refuses(Desks::busy, "a done entry", STATE, desk -> desk.cut(0, 0, 1));
        refuses(Desks::busy, "a lapsed entry", STATE, desk -> desk.cut(1, 0, 1));
        takes(Desks::busy, "a booked entry", 1, desk -> desk.cut(2, 0, 1));
        refuses(Desks::busy, "a waiting entry", STATE, desk -> desk.cut(3, 0, 1));
        refuses(Desks::busy, "a cancelled entry", STATE, desk -> desk.cut(5, 0, 1));
        takes(() -> withCuts(4), "the fifth cut", 0, desk -> desk.cut(0, 0, 1));
        refuses(() -> withCuts(5), "the sixth cut", STATE, desk -> desk.cut(0, 0, 1));
        takes(() -> withCuts(5), "another entry's first cut", 0, desk -> desk.cut(1, 0, 1));
    }

    private static void cutRefusesBars() {
        sentence(23, "Throws `UnsupportedOperationException` if there is no such bar");
        refuses(() -> withBars(), "no bars", SUPPORT, desk -> desk.cut(0, 0, 1));
        refuses(() -> withBars(3), "just the saw", SUPPORT, desk -> desk.cut(0, 0, 1));
        takes(() -> withBars(4), "1 and the saw", 0, desk -> desk.cut(0, 0, 1));
        takes(() -> withBars(100, 103, 90), "just enough", 1, desk -> desk.cut(0, 0, 100));
        refuses(() -> withBars(100, 102, 90), "too short by 1", SUPPORT, desk -> desk.cut(0, 0, 100));
        refuses(() -> withBars(5000), "too short by 1", SUPPORT, desk -> desk.cut(0, 0, 4998));
        refuses(() -> withBars(5000), "another material", SUPPORT, desk -> desk.cut(0, 1, 1));
        takes(() -> withCutOf(20), "what the first cut left", 0, desk -> desk.cut(1, 0, 74));
        refuses(() -> withCutOf(20), "1 more than that", SUPPORT, desk -> desk.cut(1, 0, 75));
    }

    private static Lendlathe withCutOf(int length) {
        Lendlathe desk = withBars(100);
        desk.cut(0, 0, length);
        return desk;
    }

    // ---- promises 24 and 25

    private interface Free {
        int on(Lendlathe desk, int bar);
    }

    private static void freeOf() {
        sentence(24, "Returns the free length of a bar.");
        hasFreeLengths(Lendlathe::freeOf);
        asks(Desks::busy, "freeOf", desk -> desk.freeOf(0));
        numbersOfBars(24, Lendlathe::freeOf);
    }

    private static void freeByCuts() {
        sentence(25, "Returns the same length, by subtracting what the cuts of all entries take.");
        hasFreeLengths(Lendlathe::freeByCuts);
        asks(Desks::busy, "freeByCuts", desk -> desk.freeByCuts(0));
        numbersOfBars(25, Lendlathe::freeByCuts);
    }

    private static void hasFreeLengths(Free free) {
        takes(() -> withBars(5000), "all of it", 5000, desk -> free.on(desk, 0));
        takes(() -> withBars(4), "nothing of it", 0, desk -> {
            desk.cut(0, 0, 1);
            return free.on(desk, 0);
        });
        takes(() -> withCuts(5), "5 cuts", 80, desk -> free.on(desk, 0));
        takes(() -> withCuts(5), "no cut", 200, desk -> free.on(desk, 1));
        takes(() -> withCuts(5), "cuts of two entries", 66, desk -> {
            desk.cut(1, 0, 11);
            return free.on(desk, 0);
        });
        takes(() -> withCuts(5), "one of two entries is cancelled", 86, desk -> {
            desk.cut(1, 0, 11);
            desk.cancel(0);
            return free.on(desk, 0);
        });
        takes(() -> withCuts(5), "one of two entries is done", 80, desk -> {
            desk.endDay();
            return free.on(desk, 0);
        });
    }

    private static void numbersOfBars(int promise, Free free) {
        sentence(promise, "`bar`: the number of the bar");
        takes(() -> withManyBars(30), "bar 0", 4000, desk -> free.on(desk, 0));
        takes(() -> withManyBars(30), "bar 29", 4029, desk -> free.on(desk, 29));

        sentence(promise, "Throws `NoSuchElementException` if there is no such bar");
        refuses(Lendlathe::new, "there are no bars", ELEMENT, desk -> free.on(desk, 0));
        refusesOutside(() -> withManyBars(1), 0, 0, ELEMENT, free::on);
        refusesOutside(() -> withManyBars(30), 0, 29, ELEMENT, free::on);
    }
}
