/** Promises 26 to 32: prices and tariffs. */
public final class TariffTest {
    public static void main(String[] args) {
        setPrice();
        setRate();
        layerRanges();
        layers();
        fee();
        cap();
        twice();
        discount();
        order();
        costOf();
        greatest();
        Expect.end();
    }

    private static void setPrice() {
        Lendlathe desk = new Lendlathe();
        Expect.raises("material -1", IllegalArgumentException.class, () -> desk.setPrice(-1, 0));
        Expect.raises("material 3", IllegalArgumentException.class, () -> desk.setPrice(3, 0));
        Expect.raises("price -1", IllegalArgumentException.class, () -> desk.setPrice(0, -1));
        Expect.raises("price 100", IllegalArgumentException.class, () -> desk.setPrice(0, 100));
        Expect.equal("the first price", 0, desk.setPrice(0, 99));
        Expect.equal("the second price", 99, desk.setPrice(0, 0));
        Expect.equal("another material", 0, desk.setPrice(2, 5));
        Expect.raises("price 100", IllegalArgumentException.class, () -> desk.setPrice(2, 100));
        Expect.equal("what threw changed nothing", 5, desk.setPrice(2, 6));
        Expect.equal("the one between", 0, desk.setPrice(1, 1));
    }

    private static void setRate() {
        Lendlathe desk = new Lendlathe();
        Expect.raises("kind -1", IllegalArgumentException.class, () -> desk.setRate(-1, 0));
        Expect.raises("kind 4", IllegalArgumentException.class, () -> desk.setRate(4, 0));
        Expect.raises("rate -1", IllegalArgumentException.class, () -> desk.setRate(0, -1));
        Expect.raises("rate 100", IllegalArgumentException.class, () -> desk.setRate(0, 100));
        Expect.equal("one layer at first", 1, desk.setRate(0, 7));
        Expect.equal("the rate", 70, desk.costOf(0, 10));
        Expect.equal("another kind", 0, desk.costOf(1, 10));
        desk.addFee(0, 5);
        desk.addCap(0, 50);
        Expect.equal("three layers", 3, desk.setRate(0, 99));
        Expect.equal("the layers are gone", 990, desk.costOf(0, 10));
        Expect.equal("one layer again", 1, desk.setRate(0, 0));
    }

    private static void layerRanges() {
        Lendlathe desk = new Lendlathe();
        Class<IllegalArgumentException> range = IllegalArgumentException.class;
        for (int kind : new int[] {-1, 4}) {
            Expect.raises("addFee", range, () -> desk.addFee(kind, 0));
            Expect.raises("addCap", range, () -> desk.addCap(kind, 0));
            Expect.raises("addDouble", range, () -> desk.addDouble(kind, 0));
            Expect.raises("addDiscount", range, () -> desk.addDiscount(kind, 0));
        }
        Expect.raises("fee -1", range, () -> desk.addFee(0, -1));
        Expect.raises("fee 1000", range, () -> desk.addFee(0, 1000));
        Expect.raises("most -1", range, () -> desk.addCap(0, -1));
        Expect.raises("most 10000", range, () -> desk.addCap(0, 10000));
        Expect.raises("from -1", range, () -> desk.addDouble(0, -1));
        Expect.raises("from 241", range, () -> desk.addDouble(0, 241));
        Expect.raises("percent -1", range, () -> desk.addDiscount(0, -1));
        Expect.raises("percent 101", range, () -> desk.addDiscount(0, 101));
        Expect.equal("what threw changed nothing", 1, desk.setRate(0, 0));
        Expect.equal("fee 0", 2, desk.addFee(1, 0));
        Expect.equal("most 0", 3, desk.addCap(1, 0));
        Expect.equal("from 0", 4, desk.addDouble(1, 0));
        Expect.equal("percent 0", 5, desk.addDiscount(1, 0));
        Expect.equal("fee 999", 2, desk.addFee(0, 999));
        Expect.equal("most 9999", 3, desk.addCap(0, 9999));
        Expect.equal("from 240", 4, desk.addDouble(0, 240));
        Expect.equal("percent 100", 5, desk.addDiscount(0, 100));
    }

    private static void layers() {
        Lendlathe desk = new Lendlathe();
        for (int layers = 2; layers <= 6; layers++) {
            Expect.equal("addFee", layers, desk.addFee(3, 1));
        }
        Class<IllegalStateException> full = IllegalStateException.class;
        Expect.raises("a seventh fee", full, () -> desk.addFee(3, 1));
        Expect.raises("a seventh cap", full, () -> desk.addCap(3, 1));
        Expect.raises("a seventh doubling", full, () -> desk.addDouble(3, 1));
        Expect.raises("a seventh discount", full, () -> desk.addDiscount(3, 1));
        Expect.raises("the range comes first", IllegalArgumentException.class, () -> desk.addFee(3, 1000));
        Expect.equal("what threw changed nothing", 5, desk.costOf(3, 1));
        Expect.equal("another kind has its own", 2, desk.addFee(2, 1));
        Expect.equal("six layers", 6, desk.setRate(3, 1));
        Expect.equal("there is room again", 2, desk.addFee(3, 1));
    }

    private static void fee() {
        Lendlathe desk = new Lendlathe();
        desk.setRate(0, 2);
        desk.addFee(0, 30);
        Expect.equal("10 minutes", 50, desk.costOf(0, 10));
        Expect.equal("0 minutes", 30, desk.costOf(0, 0));
        desk.addFee(0, 4);
        Expect.equal("two fees", 54, desk.costOf(0, 10));
    }

    private static void cap() {
        Lendlathe desk = new Lendlathe();
        desk.setRate(0, 2);
        desk.addCap(0, 100);
        Expect.equal("below", 98, desk.costOf(0, 49));
        Expect.equal("at it", 100, desk.costOf(0, 50));
        Expect.equal("beyond", 100, desk.costOf(0, 51));
        desk.addCap(0, 0);
        Expect.equal("nothing at most", 0, desk.costOf(0, 51));
    }

    private static void twice() {
        Lendlathe desk = new Lendlathe();
        desk.setRate(0, 1);
        desk.addDouble(0, 100);
        Expect.equal("99 minutes", 99, desk.costOf(0, 99));
        Expect.equal("100 minutes", 100, desk.costOf(0, 100));
        Expect.equal("101 minutes", 102, desk.costOf(0, 101));
        desk.addDouble(0, 90);
        Expect.equal("95 minutes count 100", 100, desk.costOf(0, 95));
        Expect.equal("96 minutes count 102, and then 104", 104, desk.costOf(0, 96));
        desk.setRate(1, 1);
        desk.addDouble(1, 0);
        Expect.equal("all count twice", 20, desk.costOf(1, 10));
    }

    private static void discount() {
        Lendlathe desk = new Lendlathe();
        desk.setRate(0, 1);
        desk.addDiscount(0, 33);
        Expect.equal("33 less of 100", 67, desk.costOf(0, 100));
        Expect.equal("0.99 less of 3, rounded down", 3, desk.costOf(0, 3));
        Expect.equal("1.32 less of 4, rounded down", 3, desk.costOf(0, 4));
        desk.addDiscount(0, 50);
        Expect.equal("half of 67", 34, desk.costOf(0, 100));
        desk.addDiscount(0, 0);
        Expect.equal("nothing less", 34, desk.costOf(0, 100));
        desk.addDiscount(0, 100);
        Expect.equal("all of it", 0, desk.costOf(0, 100));
    }

    private static void order() {
        Lendlathe desk = new Lendlathe();
        desk.setRate(0, 1);
        desk.addFee(0, 10);
        desk.addCap(0, 50);
        Expect.equal("the cap is on the fee", 50, desk.costOf(0, 60));
        desk.setRate(1, 1);
        desk.addCap(1, 50);
        desk.addFee(1, 10);
        Expect.equal("the fee is on the cap", 60, desk.costOf(1, 60));
        desk.addDouble(1, 20);
        Expect.equal("the minutes are doubled first", 50, desk.costOf(1, 30));
        desk.addDiscount(1, 10);
        Expect.equal("all layers", 45, desk.costOf(1, 30));
    }

    private static void costOf() {
        Lendlathe desk = new Lendlathe();
        Expect.raises("kind -1", IllegalArgumentException.class, () -> desk.costOf(-1, 0));
        Expect.raises("kind 4", IllegalArgumentException.class, () -> desk.costOf(4, 0));
        Expect.raises("minutes -1", IllegalArgumentException.class, () -> desk.costOf(0, -1));
        Expect.raises("minutes 481", IllegalArgumentException.class, () -> desk.costOf(0, 481));
        desk.setRate(3, 99);
        Expect.equal("0 minutes", 0, desk.costOf(3, 0));
        Expect.equal("480 minutes", 47520, desk.costOf(3, 480));
    }

    private static void greatest() {
        Lendlathe desk = new Lendlathe();
        desk.setRate(0, 99);
        for (int i = 0; i < 5; i++) {
            desk.addDouble(0, 0);
        }
        Expect.equal("five doublings", 480 * 32 * 99, desk.costOf(0, 480));
        desk.setRate(1, 99);
        for (int i = 0; i < 4; i++) {
            desk.addDouble(1, 0);
        }
        desk.addDiscount(1, 99);
        Expect.equal("four doublings and a discount", 7604, desk.costOf(1, 480));
    }
}
