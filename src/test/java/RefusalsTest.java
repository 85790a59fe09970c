import java.util.ArrayList;
import java.util.List;

/**
 * "When a call throws, nothing has changed; of several exceptions it is the first one of the throws clause":
 * each call is refused as is due, and behind it an object answers all later calls as one on which it was not made.
 */
public final class RefusalsTest {
    private static final String[] STATES = {"a new", "a busy", "a full", "an emptied"};
    private static final List<Row> ROWS = new ArrayList<>();

    /** A call. */
    private interface Call {
        int on(TermGate x);
    }

    /**
     * A call, and what it throws on a new object, on a busy one, on a full one, and, where that is told, on a busy one
     * with an empty draft: A, S, P, or - for nothing.
     */
    private record Row(String name, Call call, String thrown) {
    }

    public static void main(String[] args) {
        Doc.terms();
        Doc.says("When a call throws, nothing has changed;"
            + " of several exceptions it is the first one of the throws clause.");
        draftRows();
        handRows();
        translateRows();
        rulingRows();
        soldRows();
        priceRows();
        for (Row row : ROWS) {
            for (int state = 0; state < row.thrown.length(); state++) {
                checkRow(row, state);
            }
        }
        Check.end();
    }

    private static void row(String name, String thrown, Call call) {
        ROWS.add(new Row(name, call, thrown));
    }

    private static void checkRow(Row row, int state) {
        TermGate x = stateOf(state);
        String what = row.name + " on " + STATES[state] + " object";
        char due = row.thrown.charAt(state);
        Check.same(what, thrownBy(row.call, x), String.valueOf(due));
        if (due == '-') {
            return;
        }
        Check.same(what + ", again", thrownBy(row.call, x), String.valueOf(due));
        List<String> with = new ArrayList<>();
        List<String> without = new ArrayList<>();
        goOn(x, with);
        goOn(stateOf(state), without);
        for (int line = 0; line < without.size(); line++) {
            Check.same("behind " + what + ", answer " + line, with.get(line), without.get(line));
        }
    }

    private static String thrownBy(Call call, TermGate x) {
        try {
            call.on(x);
            return "-";
        } catch (IllegalArgumentException e) {
            return "A";
        } catch (IllegalStateException e) {
            return "S";
        } catch (IndexOutOfBoundsException e) {
            return "P";
        }
    }

    // ---- the objects

    private static TermGate stateOf(int state) {
        switch (state) {
            case 0:
                return new TermGate();
            case 2:
                return full();
            default:
                TermGate x = busy();
                if (state == 3) {
                    x.clear();
                }
                return x;
        }
    }

    /**
     * Three sentences, the last of them due; the orders 3 to 9, of which translator 0 has one that can be
     * delivered, 1 one with an open word, 2 one against a ruling, 3 none; two wait at each desk; a draft of two
     * words, and single voices.
     */
    private static TermGate busy() {
        TermGate x = new TermGate();
        x.setPrices(40, 9, 7);
        House.sell(x, 0, false, 1, 2, 3);
        House.sell(x, 1, true, 1, 2, 4);
        House.sell(x, 0, false, 5, 6);
        House.rule(x, 0, 5, 9);
        x.say(1, 0, 7, 70);
        x.say(2, 0, 7, 70);
        x.say(2, 0, 1, 77);
        x.say(0, 3, 49, 99);
        House.draft(x, 1, 2, 3);
        x.order(0, false);
        x.take(0);
        House.draft(x, 8, 9);
        x.order(1, true);
        x.take(1);
        x.translate(1, 0, 3);
        House.draft(x, 7, 2);
        x.order(0, false);
        x.take(2);
        x.translate(2, 0, 71);
        x.translate(2, 1, 50);
        House.draft(x, 1, 2);
        x.order(2, true);
        x.order(3, true);
        x.order(1, false);
        x.order(0, false);
        return x;
    }

    /**
     * 60 orders, 40 of them sold, the last 10 rush orders, of which the translators 0 and 1 have one each that
     * only the limit keeps from being delivered; nine sentences due, and a draft of eight words.
     */
    private static TermGate full() {
        TermGate x = House.drafted(1);
        for (int number = 0; number < 50; number++) {
            x.order(number % 4, false);
        }
        for (int number = 0; number < 40; number++) {
            x.take(number % 4);
            x.translate(number % 4, 0, 5);
            x.deliver(number % 4);
        }
        for (int number = 50; number < 60; number++) {
            x.order(number % 4, true);
        }
        House.rule(x, 3, 1, 6);
        x.mend(7);
        House.draft(x, 1, 1, 1, 1, 1, 1, 1, 1);
        x.take(0);
        x.take(1);
        return x;
    }

    // ---- what an object answers later

    private static void tell(List<String> answers, TermGate x, Call call) {
        try {
            answers.add(Integer.toString(call.on(x)));
        } catch (RuntimeException e) {
            answers.add(e.getClass().getSimpleName());
        }
    }

    /** Asks, lets everything go on, and asks again: with the calls of the state at most 512. */
    private static void goOn(TermGate x, List<String> answers) {
        ask(x, answers);
        for (int number = 0; number < 3; number++) {
            int who = number;
            tell(answers, x, y -> y.say(1, 0, 1, 77));
            tell(answers, x, y -> y.ruling(0, 1 + 3 * who));
            tell(answers, x, y -> y.say(2, 3, 49, 99));
            tell(answers, x, y -> y.mend(who));
        }
        tell(answers, x, y -> y.ruling(3, 49));
        tell(answers, x, y -> y.order(0, false));
        for (int number = 0; number < 4; number++) {
            int who = number;
            tell(answers, x, y -> y.deliver(who));
            tell(answers, x, y -> y.giveBack(who));
            tell(answers, x, y -> y.take(who));
        }
        tell(answers, x, y -> y.order(1, true));
        tell(answers, x, y -> y.giveBack(0));
        tell(answers, x, y -> y.take(0));
        tell(answers, x, y -> y.translate(0, 0, 4));
        ask(x, answers);
        tell(answers, x, y -> y.clear());
    }

    private static void ask(TermGate x, List<String> answers) {
        for (int number = 0; number < 4; number++) {
            int at = number;
            tell(answers, x, y -> y.best(at));
            tell(answers, x, y -> y.bestByAll(at));
            tell(answers, x, y -> y.cost(at, at % 2 == 0));
            tell(answers, x, y -> y.why(at));
            tell(answers, x, y -> y.wherefore(at));
            tell(answers, x, y -> y.match(at));
            tell(answers, x, y -> y.became(at, 0));
            tell(answers, x, y -> y.became(at, 1));
            tell(answers, x, y -> y.paid(at));
            tell(answers, x, y -> y.earned(at));
            tell(answers, x, y -> y.likeness(at));
            tell(answers, x, y -> y.clientOf(at));
            tell(answers, x, y -> House.bit(y.isDue(at)));
            tell(answers, x, y -> y.dueAt(at));
            tell(answers, x, y -> y.wordOf(at, 0));
            tell(answers, x, y -> y.becameOf(at, 0));
            tell(answers, x, y -> y.becameOf(at, 1));
            tell(answers, x, y -> y.orderAt(at + 3));
            tell(answers, x, y -> y.orderAt(at + 7));
            tell(answers, x, y -> y.orderAt(at + 40));
            tell(answers, x, y -> y.orderAt(at + 50));
            tell(answers, x, y -> y.ruling(0, 2 * at + 1));
        }
        tell(answers, x, y -> y.becameOf(0, 2));
        tell(answers, x, y -> y.becameOf(39, 0));
        tell(answers, x, y -> y.waiting(true));
        tell(answers, x, y -> y.waiting(false));
        tell(answers, x, y -> y.sold());
        tell(answers, x, y -> y.due());
        tell(answers, x, y -> y.purse());
    }

    // ---- the calls

    private static void draftRows() {
        for (int wrong : House.outside(0, 49)) {
            row("word(" + wrong + ")", "AAA", x -> x.word(wrong));
        }
        row("word(0)", "--S", x -> x.word(0));
        row("word(49)", "--S", x -> x.word(49));
        row("likeness(0)", "P--S", x -> x.likeness(0));
        row("likeness(-1)", "PPP", x -> x.likeness(-1));
        row("likeness(3)", "PP-P", x -> x.likeness(3));
        row("likeness(40)", "PPP", x -> x.likeness(40));
        for (int wrong : House.outside(0, 3)) {
            row("best(" + wrong + ")", "AAA", x -> x.best(wrong));
            row("bestByAll(" + wrong + ")", "AAA", x -> x.bestByAll(wrong));
            row("cost(" + wrong + ", true)", "AAA", x -> x.cost(wrong, true));
            row("order(" + wrong + ", true)", "AAA", x -> x.order(wrong, true));
            row("order(" + wrong + ", false)", "AAA", x -> x.order(wrong, false));
        }
        for (int client = 0; client < 4; client++) {
            int who = client;
            row("best(" + who + ")", "S--S", x -> x.best(who));
            row("bestByAll(" + who + ")", "S--S", x -> x.bestByAll(who));
            row("cost(" + who + ", false)", "S--S", x -> x.cost(who, false));
            row("order(" + who + ", true)", "S-SS", x -> x.order(who, true));
            row("order(" + who + ", false)", "S-SS", x -> x.order(who, false));
        }
    }

    private static void handRows() {
        for (int wrong : House.outside(0, 3)) {
            row("take(" + wrong + ")", "AAA", x -> x.take(wrong));
            row("giveBack(" + wrong + ")", "AAA", x -> x.giveBack(wrong));
            row("deliver(" + wrong + ")", "AAA", x -> x.deliver(wrong));
            row("why(" + wrong + ")", "AAA", x -> x.why(wrong));
            row("wherefore(" + wrong + ")", "AAA", x -> x.wherefore(wrong));
            row("match(" + wrong + ")", "AAA", x -> x.match(wrong));
            row("became(" + wrong + ", 0)", "AAA", x -> x.became(wrong, 0));
            row("became(" + wrong + ", -1)", "AAA", x -> x.became(wrong, -1));
        }
        String[] held = {"S--", "S--", "S-S", "SSS"};
        String[] taken = {"-SS", "-SS", "-S-", "---"};
        String[] undelivered = {"S-S", "SSS", "SSS", "SSS"};
        String[] farPlaces = {"SPP", "SPP", "SPS", "SSS"};
        for (int translator = 0; translator < 4; translator++) {
            int who = translator;
            row("take(" + who + ")", taken[who], x -> x.take(who));
            row("giveBack(" + who + ")", held[who], x -> x.giveBack(who));
            row("deliver(" + who + ")", undelivered[who], x -> x.deliver(who));
            row("why(" + who + ")", held[who], x -> x.why(who));
            row("wherefore(" + who + ")", held[who], x -> x.wherefore(who));
            row("match(" + who + ")", held[who], x -> x.match(who));
            row("became(" + who + ", 0)", held[who], x -> x.became(who, 0));
            row("became(" + who + ", -1)", farPlaces[who], x -> x.became(who, -1));
            row("became(" + who + ", 8)", farPlaces[who], x -> x.became(who, 8));
        }
        row("became(0, 3)", "SPP", x -> x.became(0, 3));
        row("became(0, 2)", "S-P", x -> x.became(0, 2));
        row("became(0, 1)", "S-P", x -> x.became(0, 1));
        row("orderAt(-1)", "PPP", x -> x.orderAt(-1));
        row("orderAt(0)", "P--", x -> x.orderAt(0));
        row("orderAt(9)", "P--", x -> x.orderAt(9));
        row("orderAt(10)", "PP-", x -> x.orderAt(10));
        row("orderAt(59)", "PP-", x -> x.orderAt(59));
        row("orderAt(60)", "PPP", x -> x.orderAt(60));
    }

    private static void translateRows() {
        for (int wrong : House.outside(0, 3)) {
            row("translate(" + wrong + ", 0, 1)", "AAA", x -> x.translate(wrong, 0, 1));
            row("translate(" + wrong + ", 8, 100)", "AAA", x -> x.translate(wrong, 8, 100));
        }
        for (int wrong : House.outside(0, 99)) {
            row("translate(0, 0, " + wrong + ")", "AAA", x -> x.translate(0, 0, wrong));
            row("translate(1, 1, " + wrong + ")", "AAA", x -> x.translate(1, 1, wrong));
            row("translate(0, 8, " + wrong + ")", "AAA", x -> x.translate(0, 8, wrong));
            row("translate(3, 0, " + wrong + ")", "AAA", x -> x.translate(3, 0, wrong));
        }
        for (int wrong : House.outside(0, 7)) {
            row("translate(0, " + wrong + ", 1)", "SPP", x -> x.translate(0, wrong, 1));
            row("translate(3, " + wrong + ", 1)", "SSS", x -> x.translate(3, wrong, 1));
        }
        row("translate(0, 1, 1)", "S-P", x -> x.translate(0, 1, 1));
        row("translate(0, 3, 1)", "SPP", x -> x.translate(0, 3, 1));
        row("translate(1, 2, 1)", "SPP", x -> x.translate(1, 2, 1));
        row("translate(3, 0, 1)", "SSS", x -> x.translate(3, 0, 1));
    }

    private static void rulingRows() {
        for (int wrong : House.outside(0, 2)) {
            row("say(" + wrong + ", 0, 7, 71)", "AAA", x -> x.say(wrong, 0, 7, 71));
        }
        for (int wrong : House.outside(0, 3)) {
            row("say(1, " + wrong + ", 7, 71)", "AAA", x -> x.say(1, wrong, 7, 71));
            row("ruling(" + wrong + ", 7)", "AAA", x -> x.ruling(wrong, 7));
        }
        for (int wrong : House.outside(0, 49)) {
            row("say(1, 0, " + wrong + ", 71)", "AAA", x -> x.say(1, 0, wrong, 71));
            row("ruling(0, " + wrong + ")", "AAA", x -> x.ruling(0, wrong));
        }
        for (int wrong : House.outside(-1, 99)) {
            row("say(1, 0, 7, " + wrong + ")", "AAA", x -> x.say(1, 0, 7, wrong));
            row("say(1, 3, 1, " + wrong + ")", "AAA", x -> x.say(1, 3, 1, wrong));
        }
    }

    private static void soldRows() {
        for (int wrong : House.outside(0, 39)) {
            row("clientOf(" + wrong + ")", "PPP", x -> x.clientOf(wrong));
            row("wordOf(" + wrong + ", 0)", "PPP", x -> x.wordOf(wrong, 0));
            row("becameOf(" + wrong + ", 0)", "PPP", x -> x.becameOf(wrong, 0));
            row("isDue(" + wrong + ")", "PPP", x -> House.bit(x.isDue(wrong)));
            row("dueAt(" + wrong + ")", "PPP", x -> x.dueAt(wrong));
            row("mend(" + wrong + ")", "PPP", x -> x.mend(wrong));
        }
        for (int wrong : House.outside(0, 7)) {
            row("wordOf(0, " + wrong + ")", "PPP", x -> x.wordOf(0, wrong));
            row("becameOf(0, " + wrong + ")", "PPP", x -> x.becameOf(0, wrong));
        }
        row("wordOf(0, 3)", "PPP", x -> x.wordOf(0, 3));
        row("becameOf(2, 2)", "PPP", x -> x.becameOf(2, 2));
        row("clientOf(2)", "P--", x -> x.clientOf(2));
        row("clientOf(3)", "PP-", x -> x.clientOf(3));
        row("isDue(3)", "PP-", x -> House.bit(x.isDue(3)));
        row("dueAt(0)", "P--", x -> x.dueAt(0));
        row("dueAt(1)", "PP-", x -> x.dueAt(1));
        row("dueAt(8)", "PP-", x -> x.dueAt(8));
        row("dueAt(9)", "PPP", x -> x.dueAt(9));
        row("mend(0)", "PSS", x -> x.mend(0));
        row("mend(1)", "PSS", x -> x.mend(1));
        row("mend(2)", "P-S", x -> x.mend(2));
        row("mend(3)", "PP-", x -> x.mend(3));
        row("mend(7)", "PPS", x -> x.mend(7));
        row("mend(39)", "PP-", x -> x.mend(39));
    }

    private static void priceRows() {
        for (int wrong : House.outside(1, 100)) {
            row("setPrices(" + wrong + ", 50, 50)", "AAA", x -> setPrices(x, wrong, 50, 50));
        }
        for (int wrong : House.outside(0, 100)) {
            row("setPrices(100, " + wrong + ", 50)", "AAA", x -> setPrices(x, 100, wrong, 50));
            row("setPrices(100, 50, " + wrong + ")", "AAA", x -> setPrices(x, 100, 50, wrong));
        }
        for (int wrong : House.outside(0, 3)) {
            row("paid(" + wrong + ")", "AAA", x -> x.paid(wrong));
            row("earned(" + wrong + ")", "AAA", x -> x.earned(wrong));
        }
    }

    private static int setPrices(TermGate x, int least, int price, int rate) {
        x.setPrices(least, price, rate);
        return 0;
    }
}
