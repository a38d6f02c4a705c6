/** What all questions about a machine and a day have in common: the boundary cases of these two numbers. */
final class DayBounds extends Bounds {
    private static final int[] DAYS = {0, 5, 900};

    private final int promise;
    private final boolean isFromToday;
    private final Object used;
    private final Object empty;
    private final Question question;

    /** The question's answers for a day that has the entries of {@link #use}, and for a day without entries. */
    DayBounds(int promise, boolean isFromToday, Object used, Object empty, Question question) {
        this.promise = promise;
        this.isFromToday = isFromToday;
        this.used = used;
        this.empty = empty;
        this.question = question;
    }

    /** The minutes 0 to 9 and 20 to 29 are booked for unlike work, those between them are setup; one entry waits. */
    private static void use(Lendlathe desk, int member, int machine, int day) {
        desk.book(member, machine, day, 0, 10, 'a');
        desk.book(member, machine, day, 20, 10, 'b');
        desk.await(member, machine, day, 0, 10, 'a');
    }

    /** 6 machines; the first and the last are used on day 0, on the present day and 6 days later. */
    private static Lendlathe sixMachines(int today) {
        Lendlathe desk = Desks.with(6, 10, 2);
        use(desk, 0, 0, 0);
        use(desk, 1, 5, 0);
        if (today > 0) {
            Desks.endDays(desk, today);
            desk.induct(0, 0);
            desk.induct(1, 0);
            use(desk, 0, 0, today);
            use(desk, 1, 5, today);
        }
        use(desk, 0, 0, today + 6);
        use(desk, 1, 5, today + 6);
        return desk;
    }

    void takesAndRefusesMachines() {
        sentence(promise, "`machine`: the number of the machine");
        takes(() -> sixMachines(0), "machine 0", used, desk -> question.on(desk, 0, 0));
        takes(() -> sixMachines(0), "machine 1", empty, desk -> question.on(desk, 1, 0));
        takes(() -> sixMachines(0), "machine 5", used, desk -> question.on(desk, 5, 0));

        sentence(promise, "Throws `IndexOutOfBoundsException` if there is no such machine");
        refuses(Lendlathe::new, "there are no machines", INDEX, desk -> question.on(desk, 0, 0));
        refusesOutside(() -> Desks.with(1, 0, 1), 0, 0, INDEX, (desk, machine) -> question.on(desk, machine, 0));
        refusesOutside(() -> sixMachines(5), 0, 5, INDEX, (desk, machine) -> question.on(desk, machine, 5));
    }

    void takesDays() {
        sentence(promise, isFromToday ? "`day`: the day, from the present day to 6 days later"
                : "`day`: the day, from 0 to 6 days after the present one");
        for (int today : DAYS) {
            if (!isFromToday) {
                takes(() -> sixMachines(today), "day 0", used, desk -> question.on(desk, 0, 0));
            }
            takes(() -> sixMachines(today), "the present day", used, desk -> question.on(desk, 0, today));
            takes(() -> sixMachines(today), "1 day later", empty, desk -> question.on(desk, 0, today + 1));
            takes(() -> sixMachines(today), "5 days later", empty, desk -> question.on(desk, 0, today + 5));
            takes(() -> sixMachines(today), "6 days later", used, desk -> question.on(desk, 0, today + 6));
            asks(() -> sixMachines(today), "the question", desk -> question.on(desk, 0, today));
        }
    }

    /** The sentence is left open for checks of the other parameters that it speaks of. */
    void refusesDays(String rangeSentence) {
        sentence(promise, rangeSentence);
        for (int today : DAYS) {
            refusesOutside(() -> sixMachines(today), isFromToday ? today : 0, today + 6, RANGE,
                    (desk, day) -> question.on(desk, 0, day));
        }
        if (isFromToday) {
            refuses(() -> sixMachines(5), "day 0 on day 5", RANGE, desk -> question.on(desk, 0, 0));
        }
    }
}
