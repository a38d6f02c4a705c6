import java.util.function.Supplier;

/** All that a desk answers, as one text. Its last questions are calls that change the desk. */
final class Answers {
    private static final int[] MINUTES = {0, 1, 2, 99, 240, 241, 480};
    private static final int[] DAYS_ON = {0, 1, 6, 12, 18, 22, 23, 24, 28, 29, 30};

    private final Lendlathe desk;
    private final StringBuilder text = new StringBuilder();
    private final int machines;
    private final int members;

    private Answers(Lendlathe desk) {
        this.desk = desk;
        this.machines = count(machine -> desk.usedMinutes(machine, 0));
        this.members = count(desk::owes);
    }

    static String of(Lendlathe desk) {
        Answers answers = new Answers(desk);
        answers.askSums();
        answers.askMachines();
        answers.askMembers();
        answers.askEntries();
        answers.askBars();
        answers.askTariffs();
        answers.tryCalls();
        return answers.text.toString();
    }

    private interface Numbered {
        Object of(int number);
    }

    /** How many numbers from 0 on there are. */
    private static int count(Numbered question) {
        int number = 0;
        try {
            while (number < 1000) {
                question.of(number);
                number++;
            }
        } catch (RuntimeException e) {
            return number;
        }
        return number;
    }

    private void put(String name, Supplier<Object> question) {
        text.append(name).append(' ');
        try {
            text.append(question.get());
        } catch (RuntimeException e) {
            text.append(e.getClass().getSimpleName());
        }
        text.append("; ");
    }

    private void askSums() {
        put("day", desk::day);
        put("entries", desk::entries);
        put("takings", desk::takings);
        put("mean", desk::meanMinutes);
        put("sound", desk::isSound);
    }

    private void askMachines() {
        int today = desk.day();
        for (int number = 0; number < machines; number++) {
            int machine = number;
            text.append("\nmachine ").append(machine).append(": ");
            for (int next = Math.max(0, today - 8); next <= today + 6; next++) {
                int day = next;
                put("used " + day, () -> desk.usedMinutes(machine, day));
                put("setup", () -> desk.setupMinutes(machine, day));
            }
            for (int next = today; next <= today + 6; next++) {
                int day = next;
                put("waiting " + day, () -> desk.waiting(machine, day));
                put("first a", () -> desk.firstStart(machine, day, 20, 'a'));
                put("first b", () -> desk.firstStart(machine, day, 20, 'b'));
                put("first c", () -> desk.firstStart(machine, day, 20, 'c'));
            }
        }
    }

    private void askMembers() {
        for (int number = 0; number < members; number++) {
            int member = number;
            text.append("\nmember ").append(member).append(": ");
            put("owes", () -> desk.owes(member));
            put("by entries", () -> desk.owesByEntries(member));
            for (int other = 0; other < 4; other++) {
                int kind = other;
                for (int days : DAYS_ON) {
                    put("live " + kind, () -> desk.isLive(member, kind, desk.day() + days));
                }
            }
            int breakages = count(breakage -> desk.shareOf(breakage, member));
            for (int other = 0; other < breakages; other++) {
                int breakage = other;
                put("share", () -> desk.shareOf(breakage, member));
            }
        }
    }

    private void askEntries() {
        text.append("\nentries: ");
        for (int number = 0; number < desk.entries(); number++) {
            int entry = number;
            put("state", () -> desk.stateOf(entry));
            put("due", () -> desk.dueOf(entry));
        }
    }

    private void askBars() {
        text.append("\nbars: ");
        int bars = count(desk::freeOf);
        for (int number = 0; number < bars; number++) {
            int bar = number;
            put("free", () -> desk.freeOf(bar));
            put("by cuts", () -> desk.freeByCuts(bar));
        }
    }

    private void askTariffs() {
        for (int number = 0; number < 4; number++) {
            int kind = number;
            text.append("\nkind ").append(kind).append(": ");
            for (int minutes : MINUTES) {
                put("cost", () -> desk.costOf(kind, minutes));
            }
        }
    }

    /** Prices, layers, needs and the days of inductions show in the answers of calls that change them. */
    private void tryCalls() {
        text.append("\ncalls: ");
        put("end", desk::endDay);
        askEntries();
        for (int number = 0; number < 4; number++) {
            int kind = number;
            for (int other = 0; other < members; other++) {
                int member = other;
                put("induct", () -> desk.induct(member, kind));
            }
            put("layers", () -> desk.setRate(kind, 0));
        }
        for (int number = 0; number < 12; number++) {
            int kind = number % 4;
            int other = (kind + 1 + number / 4) % 4;
            put("need", () -> desk.addNeed(kind, other));
        }
        for (int number = 0; number < 3; number++) {
            int material = number;
            put("price", () -> desk.setPrice(material, 0));
            put("bar", () -> desk.deliver(material, 1));
        }
        put("machine", () -> desk.addMachine(0, 0));
        put("member", desk::addMember);
    }
}
