import java.util.NoSuchElementException;

/** Promises 22 to 25: bars and cuts. */
public final class BarTest {
    public static void main(String[] args) {
        deliver();
        cutRanges();
        cutOrder();
        cutChooses();
        cutFits();
        freeOf();
        cutsEndOrStay();
        Expect.end();
    }

    private static void deliver() {
        Lendlathe desk = new Lendlathe();
        Expect.raises("material -1", IllegalArgumentException.class, () -> desk.deliver(-1, 1));
        Expect.raises("material 3", IllegalArgumentException.class, () -> desk.deliver(3, 1));
        Expect.raises("length 0", IllegalArgumentException.class, () -> desk.deliver(0, 0));
        Expect.raises("length 5001", IllegalArgumentException.class, () -> desk.deliver(0, 5001));
        for (int bar = 0; bar < 30; bar++) {
            int length = bar == 29 ? 5000 : bar + 1;
            Expect.equal("deliver", bar, desk.deliver(bar % 3, length));
            Expect.equal("all of it is free", length, desk.freeOf(bar));
        }
        Expect.raises("a 31st bar", IllegalStateException.class, () -> desk.deliver(0, 1));
        Expect.raises("the range comes first", IllegalArgumentException.class, () -> desk.deliver(0, 0));
    }

    private static Lendlathe deskWithEntry() {
        Lendlathe desk = Desks.with(1, 0, 2);
        desk.book(0, 0, 0, 0, 60, 'a');
        return desk;
    }

    private static void cutRanges() {
        Lendlathe desk = deskWithEntry();
        desk.deliver(0, 5000);
        Expect.raises("entry -1", NoSuchElementException.class, () -> desk.cut(-1, 0, 1));
        Expect.raises("entry 1", NoSuchElementException.class, () -> desk.cut(1, 0, 1));
        Expect.raises("entry before material", NoSuchElementException.class, () -> desk.cut(1, 3, 1));
        Expect.raises("material -1", IllegalArgumentException.class, () -> desk.cut(0, -1, 1));
        Expect.raises("material 3", IllegalArgumentException.class, () -> desk.cut(0, 3, 1));
        Expect.raises("length 0", IllegalArgumentException.class, () -> desk.cut(0, 0, 0));
        Expect.raises("length 5001", IllegalArgumentException.class, () -> desk.cut(0, 0, 5001));
        Expect.raises("length greatest", IllegalArgumentException.class, () -> desk.cut(0, 0, Integer.MAX_VALUE));
        Expect.raises("length 5000 is too long", UnsupportedOperationException.class, () -> desk.cut(0, 0, 5000));
        Expect.equal("what threw changed nothing", 5000, desk.freeOf(0));
        Expect.equal("length 4997", 0, desk.cut(0, 0, 4997));
    }

    private static void cutOrder() {
        Lendlathe desk = deskWithEntry();
        desk.deliver(0, 1000);
        desk.await(1, 0, 0, 0, 60, 'a');
        Expect.raises("a waiting entry", IllegalStateException.class, () -> desk.cut(1, 0, 1));
        Expect.raises("the range before the state", IllegalArgumentException.class, () -> desk.cut(1, 0, 0));
        for (int i = 0; i < 5; i++) {
            Expect.equal("cut", 0, desk.cut(0, 0, 10));
        }
        Expect.raises("a sixth cut", IllegalStateException.class, () -> desk.cut(0, 0, 10));
        Expect.raises("the number of cuts before the bar", IllegalStateException.class, () -> desk.cut(0, 2, 10));
        Expect.equal("what threw changed nothing", 935, desk.freeOf(0));
        desk.cancel(0);
        Expect.raises("a cancelled entry", IllegalStateException.class, () -> desk.cut(0, 0, 10));
        Expect.equal("the entry that waited has cuts of its own", 0, desk.cut(1, 0, 10));
        desk.endDay();
        Expect.raises("a done entry", IllegalStateException.class, () -> desk.cut(1, 0, 10));
    }

    private static void cutChooses() {
        Lendlathe desk = deskWithEntry();
        desk.deliver(0, 300);
        desk.deliver(0, 200);
        desk.deliver(1, 100);
        desk.deliver(0, 200);
        desk.deliver(0, 100);
        Expect.equal("the least one that is enough", 1, desk.cut(0, 0, 98));
        Expect.equal("the bar that has less left", 4, desk.cut(0, 0, 97));
        Expect.equal("the rest of bar 1", 1, desk.cut(0, 0, 96));
        Expect.equal("the next one", 3, desk.cut(0, 0, 1));
        Expect.equal("another material", 2, desk.cut(0, 1, 1));
        Expect.equal("bar 0 is whole", 300, desk.freeOf(0));
        Expect.equal("bar 1 is used up", 0, desk.freeOf(1));
    }

    private static void cutFits() {
        Lendlathe desk = deskWithEntry();
        desk.deliver(2, 10);
        desk.deliver(1, 2);
        Expect.raises("2 more than the length", UnsupportedOperationException.class, () -> desk.cut(0, 2, 8));
        Expect.raises("no bar of the material", UnsupportedOperationException.class, () -> desk.cut(0, 0, 1));
        Expect.raises("a bar shorter than the saw", UnsupportedOperationException.class, () -> desk.cut(0, 1, 1));
        Expect.equal("3 more than the length", 0, desk.cut(0, 2, 7));
        Expect.raises("nothing is left", UnsupportedOperationException.class, () -> desk.cut(0, 2, 1));
    }

    private static void freeOf() {
        Lendlathe desk = deskWithEntry();
        desk.deliver(0, 100);
        for (int bar : new int[] {Integer.MIN_VALUE, -1, 1, Integer.MAX_VALUE}) {
            Expect.raises("freeOf", NoSuchElementException.class, () -> desk.freeOf(bar));
            Expect.raises("freeByCuts", NoSuchElementException.class, () -> desk.freeByCuts(bar));
        }
        desk.deliver(0, 100);
        desk.cut(0, 0, 20);
        desk.cut(0, 0, 30);
        Expect.equal("two cuts", 44, desk.freeOf(0));
        Expect.equal("two cuts", 44, desk.freeByCuts(0));
        Expect.equal("no cut", 100, desk.freeOf(1));
        Expect.equal("no cut", 100, desk.freeByCuts(1));
    }

    private static void cutsEndOrStay() {
        Lendlathe desk = deskWithEntry();
        desk.deliver(0, 100);
        desk.deliver(0, 100);
        desk.book(1, 0, 0, 60, 60, 'a');
        desk.cut(0, 0, 50);
        desk.cut(0, 0, 60);
        desk.cut(1, 0, 10);
        Expect.equal("bar 0 has a cut of entry 0", 47, desk.freeOf(0));
        Expect.equal("bar 1 has a cut of each", 24, desk.freeOf(1));
        desk.cancel(0);
        Expect.equal("bar 0 without the entry's cut", 100, desk.freeOf(0));
        Expect.equal("bar 0 without the entry's cut", 100, desk.freeByCuts(0));
        Expect.equal("bar 1 without the entry's cut", 87, desk.freeOf(1));
        Expect.equal("bar 1 without the entry's cut", 87, desk.freeByCuts(1));
        desk.endDay();
        Expect.equal("the cut of a done entry stays", 87, desk.freeOf(1));
        Expect.equal("the cut of a done entry stays", 87, desk.freeByCuts(1));
    }
}
