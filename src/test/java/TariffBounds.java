/** The boundary cases of the promises 26 to 32: prices and tariffs. */
final class TariffBounds extends Bounds {
    private static final String KIND = "`kind`: the kind, 0 to 3";
    private static final String RANGES = "Throws `IllegalArgumentException` if one of them is out of range";

    private interface Add {
        int on(Lendlathe desk, int kind, int amount);
    }

    private TariffBounds() {
    }

    static void run() {
        setPrice();
        setPriceRefuses();
        setRate();
        setRateReturns();
        addFee();
        addCap();
        addDouble();
        addDiscount();
        costOf();
    }

    // ---- promise 26

    /** A booked entry with a cut of 100 of each material. */
    private static Lendlathe withCuts() {
        Lendlathe desk = Desks.with(1, 0, 1);
        desk.book(0, 0, 0, 0, 60, 'a');
        for (int material = 0; material < 3; material++) {
            desk.deliver(material, 200);
            desk.cut(0, material, 100);
        }
        return desk;
    }

    private static Object dueWithPrice(Lendlathe desk, int material, int price) {
        desk.setPrice(material, price);
        desk.endDay();
        return desk.dueOf(0);
    }

    private static void setPrice() {
        sentence(26, "Sets the price of a material.");
        takes(TariffBounds::withCuts, "the price of another material", 0, desk -> {
            desk.setPrice(0, 7);
            return desk.setPrice(1, 0);
        });
        takes(TariffBounds::withCuts, "the last price counts", 8, desk -> {
            desk.setPrice(0, 7);
            return dueWithPrice(desk, 0, 8);
        });

        sentence(26, "`material`: the material, 0 to 2");
        for (int number = 0; number < 3; number++) {
            int material = number;
            takes(TariffBounds::withCuts, "material " + material, 9, desk -> dueWithPrice(desk, material, 9));
        }

        sentence(26, "`price`: the price, 0 to 99");
        for (int price : new int[] {0, 1, 98, 99}) {
            takes(TariffBounds::withCuts, "price " + price, price, desk -> dueWithPrice(desk, 1, price));
        }
    }

    private static void setPriceRefuses() {
        sentence(26, "Returns the price before the call.");
        Lendlathe desk = new Lendlathe();
        int[] prices = {99, 0, 0, 5, 5, 98};
        int before = 0;
        for (int price : prices) {
            Expect.equal("setPrice", before, desk.setPrice(2, price));
            before = price;
        }

        sentence(26, RANGES);
        refusesOutside(Desks::busy, 0, 2, RANGE, (one, material) -> one.setPrice(material, 1));
        refusesOutside(Desks::busy, 0, 99, RANGE, (one, price) -> one.setPrice(0, price));
    }

    // ---- promise 27

    private static Lendlathe withLayers(int kind, int layers) {
        Lendlathe desk = new Lendlathe();
        for (int layer = 1; layer < layers; layer++) {
            desk.addFee(kind, 10);
        }
        return desk;
    }

    private static Object costWithRate(Lendlathe desk, int kind, int rate, int minutes) {
        desk.setRate(kind, rate);
        return desk.costOf(kind, minutes);
    }

    private static void setRate() {
        sentence(27, "Gives a kind a tariff of one layer, which costs the rate times the number of minutes.");
        takes(() -> withLayers(0, 6), "no layer is left above it", 30, desk -> costWithRate(desk, 0, 3, 10));
        takes(() -> withLayers(0, 6), "0 minutes", 0, desk -> costWithRate(desk, 0, 99, 0));
        takes(() -> withLayers(0, 6), "1 minute", 99, desk -> costWithRate(desk, 0, 99, 1));
        takes(() -> withLayers(0, 6), "480 minutes", 47520, desk -> costWithRate(desk, 0, 99, 480));

        sentence(27, KIND);
        for (int number = 0; number < 4; number++) {
            int kind = number;
            takes(Lendlathe::new, "kind " + kind, 20, desk -> costWithRate(desk, kind, 2, 10));
            takes(Lendlathe::new, "another kind", 0, desk -> {
                desk.setRate(kind, 2);
                return desk.costOf((kind + 1) % 4, 10);
            });
        }

        sentence(27, "`rate`: the rate, 0 to 99");
        for (int rate : new int[] {0, 1, 98, 99}) {
            takes(Lendlathe::new, "rate " + rate, rate, desk -> costWithRate(desk, 0, rate, 1));
        }
    }

    private static void setRateReturns() {
        sentence(27, "Returns how many layers the tariff had before the call.");
        for (int number = 1; number <= 6; number++) {
            int layers = number;
            takes(() -> withLayers(3, layers), "setRate", layers, desk -> desk.setRate(3, 5));
            takes(() -> withLayers(3, layers), "setRate again", 1, desk -> {
                desk.setRate(3, 5);
                return desk.setRate(3, 5);
            });
        }
        takes(() -> withLayers(3, 6), "another kind", 1, desk -> desk.setRate(2, 5));

        sentence(27, RANGES);
        refusesOutside(Desks::busy, 0, 3, RANGE, (desk, kind) -> desk.setRate(kind, 1));
        refusesOutside(Desks::busy, 0, 99, RANGE, (desk, rate) -> desk.setRate(0, rate));
    }

    // ---- promises 28 to 31

    /** What all four have in common; the sentence that is named first is the amount's own. */
    private static void layer(int promise, String amountSentence, int most, Add add) {
        sentence(promise, amountSentence);
        takes(Lendlathe::new, "amount 0", 2, desk -> add.on(desk, 0, 0));
        takes(Lendlathe::new, "amount 1", 2, desk -> add.on(desk, 0, 1));
        takes(Lendlathe::new, "amount " + most, 2, desk -> add.on(desk, 0, most));

        sentence(promise, KIND);
        for (int number = 0; number < 4; number++) {
            int kind = number;
            takes(Lendlathe::new, "kind " + kind, 2, desk -> add.on(desk, kind, 1));
            takes(Lendlathe::new, "layers of kind " + kind, 2, desk -> {
                add.on(desk, kind, 1);
                return desk.setRate(kind, 0);
            });
            takes(Lendlathe::new, "layers of another kind", 1, desk -> {
                add.on(desk, kind, 1);
                return desk.setRate((kind + 1) % 4, 0);
            });
        }

        sentence(promise, "Returns the number of layers after the call.");
        for (int number = 2; number <= 6; number++) {
            int layers = number;
            takes(() -> withLayers(1, layers - 1), "the layers", layers, desk -> add.on(desk, 1, 1));
        }

        sentence(promise, RANGES);
        refusesOutside(Desks::busy, 0, 3, RANGE, (desk, kind) -> add.on(desk, kind, 1));
        refusesOutside(Desks::busy, 0, most, RANGE, (desk, amount) -> add.on(desk, 0, amount));

        sentence(promise, "Throws `IllegalStateException` if there are 6 layers");
        takes(() -> withLayers(2, 5), "the sixth layer", 6, desk -> add.on(desk, 2, 1));
        refuses(() -> withLayers(2, 6), "the seventh layer", STATE, desk -> add.on(desk, 2, 1));
        takes(() -> withLayers(2, 6), "another kind's second layer", 2, desk -> add.on(desk, 1, 1));
    }

    /** What a number of minutes costs by this rate and this layer on it. */
    private static void costs(int due, int minutes, int rate, Add add, int amount) {
        takes(Lendlathe::new, minutes + " minutes, rate " + rate + ", amount " + amount, due, desk -> {
            desk.setRate(0, rate);
            add.on(desk, 0, amount);
            return desk.costOf(0, minutes);
        });
    }

    /** What this layer on a rate of 1 answers when the layer on top of it asks for twice the minutes of a day. */
    private static void costsBeyondDay(int due, Add add, int amount) {
        takes(Lendlathe::new, "960 minutes, amount " + amount, due, desk -> {
            desk.setRate(0, 1);
            add.on(desk, 0, amount);
            desk.addDouble(0, 0);
            return desk.costOf(0, 480);
        });
    }

    private static void addFee() {
        sentence(28, "Adds a layer that asks the layer below for the same number of minutes and adds a fee to the"
                + " answer.");
        costs(999, 0, 99, Lendlathe::addFee, 999);
        costs(0, 0, 99, Lendlathe::addFee, 0);
        costs(20, 10, 2, Lendlathe::addFee, 0);
        costs(21, 10, 2, Lendlathe::addFee, 1);
        costs(48519, 480, 99, Lendlathe::addFee, 999);
        costsBeyondDay(967, Lendlathe::addFee, 7);
        layer(28, "`fee`: the fee, 0 to 999", 999, Lendlathe::addFee);
    }

    private static void addCap() {
        sentence(29, "Adds a layer that asks the layer below for the same number of minutes and answers the lesser one"
                + " of its answer and a greatest amount.");
        costs(19, 19, 1, Lendlathe::addCap, 20);
        costs(20, 20, 1, Lendlathe::addCap, 20);
        costs(20, 21, 1, Lendlathe::addCap, 20);
        costs(0, 480, 99, Lendlathe::addCap, 0);
        costs(0, 0, 99, Lendlathe::addCap, 0);
        costs(9999, 101, 99, Lendlathe::addCap, 9999);
        costs(9999, 102, 99, Lendlathe::addCap, 9999);
        costs(9900, 100, 99, Lendlathe::addCap, 9999);
        costsBeyondDay(960, Lendlathe::addCap, 960);
        costsBeyondDay(959, Lendlathe::addCap, 959);
        layer(29, "`most`: the greatest amount, 0 to 9999", 9999, Lendlathe::addCap);
    }

    private static void addDouble() {
        sentence(30, "Adds a layer by which minutes beyond a number count twice: if the number of minutes is greater"
                + " than that number, it asks the layer below for the number of minutes plus the difference, otherwise"
                + " for the same number of minutes.");
        costs(29, 29, 1, Lendlathe::addDouble, 30);
        costs(30, 30, 1, Lendlathe::addDouble, 30);
        costs(32, 31, 1, Lendlathe::addDouble, 30);
        costs(0, 0, 99, Lendlathe::addDouble, 0);
        costs(2, 1, 1, Lendlathe::addDouble, 0);
        costs(960, 480, 1, Lendlathe::addDouble, 0);
        costs(240, 240, 1, Lendlathe::addDouble, 240);
        costs(242, 241, 1, Lendlathe::addDouble, 240);
        costs(720, 480, 1, Lendlathe::addDouble, 240);
        costsBeyondDay(1680, Lendlathe::addDouble, 240);
        takes(Lendlathe::new, "5 such layers, which ask for more minutes than a day has", 480 * 32 * 99, desk -> {
            desk.setRate(0, 99);
            for (int layer = 0; layer < 5; layer++) {
                desk.addDouble(0, 0);
            }
            return desk.costOf(0, 480);
        });
        layer(30, "`from`: the number, 0 to 240", 240, Lendlathe::addDouble);
    }

    private static void addDiscount() {
        sentence(31, "Adds a layer that asks the layer below for the same number of minutes and subtracts a percentage"
                + " of the answer, which is the answer times the percentage divided by 100, rounded down.");
        costs(99, 99, 1, Lendlathe::addDiscount, 1);
        costs(99, 100, 1, Lendlathe::addDiscount, 1);
        costs(100, 101, 1, Lendlathe::addDiscount, 1);
        costs(1, 1, 1, Lendlathe::addDiscount, 99);
        costs(1, 2, 1, Lendlathe::addDiscount, 99);
        costs(0, 1, 1, Lendlathe::addDiscount, 100);
        costs(7, 7, 1, Lendlathe::addDiscount, 0);
        costs(0, 0, 1, Lendlathe::addDiscount, 50);
        costs(2, 3, 1, Lendlathe::addDiscount, 50);
        costs(0, 480, 99, Lendlathe::addDiscount, 100);
        costs(47520, 480, 99, Lendlathe::addDiscount, 0);
        costsBeyondDay(480, Lendlathe::addDiscount, 50);
        takes(Lendlathe::new, "the greatest amount of which a percentage is taken", 760320 - 752716, desk -> {
            desk.setRate(0, 99);
            for (int layer = 0; layer < 4; layer++) {
                desk.addDouble(0, 0);
            }
            desk.addDiscount(0, 99);
            return desk.costOf(0, 480);
        });
        layer(31, "`percent`: the percentage, 0 to 100", 100, Lendlathe::addDiscount);
    }

    // ---- promise 32

    private static Lendlathe withRates() {
        Lendlathe desk = new Lendlathe();
        for (int kind = 0; kind < 4; kind++) {
            desk.setRate(kind, kind + 1);
        }
        return desk;
    }

    private static void costOf() {
        sentence(32, "Returns what a number of minutes costs by the tariff of a kind.");
        takes(Lendlathe::new, "by the first tariff", 0, desk -> desk.costOf(0, 480));
        takes(TariffBounds::withRates, "by a rate", 20, desk -> desk.costOf(1, 10));
        asks(Desks::busy, "costOf", desk -> desk.costOf(0, 60));

        sentence(32, KIND);
        for (int number = 0; number < 4; number++) {
            int kind = number;
            takes(TariffBounds::withRates, "kind " + kind, kind + 1, desk -> desk.costOf(kind, 1));
        }

        sentence(32, "`minutes`: the number of minutes, 0 to 480");
        for (int minutes : new int[] {0, 1, 240, 241, 479, 480}) {
            takes(TariffBounds::withRates, minutes + " minutes", minutes, desk -> desk.costOf(0, minutes));
        }

        sentence(32, RANGES);
        refusesOutside(Desks::busy, 0, 3, RANGE, (desk, kind) -> desk.costOf(kind, 1));
        refusesOutside(Desks::busy, 0, 480, RANGE, (desk, minutes) -> desk.costOf(0, minutes));
    }
}
