/** Promises 1 to 7, sentence by sentence: the last that is allowed, the first that is not, what is empty and full. */
public final class DraftBoundariesTest {
    private static final int NONE = House.NONE;

    public static void main(String[] args) {
        promise1NewObject();
        promise2Word();
        promise3Clear();
        promise4Likeness();
        promise5Best();
        promise6BestByAll();
        promise7Cost();
        Doc.allSaid(1, 7);
        Check.end();
    }

    private static void promise1NewObject() {
        Doc.promise(1);
        Doc.says("Begins without orders, sentences and rulings.");
        House.sell(new TermGate(), 0, false, 1);
        TermGate x = new TermGate();
        Check.throwsPlace("orderAt(0)", () -> x.orderAt(0));
        Check.same("waiting(true)", x.waiting(true), 0);
        Check.same("waiting(false)", x.waiting(false), 0);
        for (int number = 0; number < 4; number++) {
            int who = number;
            Check.throwsState("a translator has none", () -> x.why(who));
            Check.same("none to take", x.take(who), NONE);
            Check.same("paid", x.paid(who), 0);
            Check.same("earned", x.earned(who), 0);
            for (int word = 0; word < 50; word++) {
                Check.same("ruling", x.ruling(who, word), NONE);
            }
        }
        Check.same("sold", x.sold(), 0);
        Check.throwsPlace("isDue(0)", () -> x.isDue(0));
        Check.same("due", x.due(), 0);
        Check.throwsPlace("dueAt(0)", () -> x.dueAt(0));
        Check.same("purse", x.purse(), 0);
        Check.same("the draft is empty", x.clear(), 0);
    }

    private static void promise2Word() {
        Doc.promise(2);
        Doc.says("Adds a word to the draft.");
        TermGate x = new TermGate();
        House.sell(x, 0, false, 1, 2, 3, 4, 5, 6, 7, 8);
        x.clear();
        for (int word = 1; word <= 8; word++) {
            x.word(word);
            Check.same("behind the others", x.likeness(0), 100 - (100 * (8 - word) + 7) / 8);
        }

        Doc.says("- `word`: 0 to 49");
        for (int number = 0; number < 50; number++) {
            TermGate y = new TermGate();
            Check.same("word(" + number + ")", y.word(number), 1);
            House.sellDraft(y);
            Check.same("it is this word", y.wordOf(0, 0), number);
        }

        Doc.says("Returns how many words it has then.");
        TermGate z = new TermGate();
        for (int has = 1; has <= 8; has++) {
            Check.same("word no. " + has, z.word(has == 1 ? 0 : 49), has);
        }

        Doc.says("Throws `IllegalArgumentException` if word is out of range");
        TermGate empty = new TermGate();
        Check.refusesArguments(House.outside(0, 49), wrong -> empty.word(wrong));
        Check.same("nothing is added", empty.clear(), 0);
        Check.refusesArguments(House.outside(0, 49), wrong -> z.word(wrong));

        Doc.says("Throws `IllegalStateException` if it has 8 words");
        Check.throwsState("the ninth", () -> z.word(0));
        Check.throwsState("the ninth, again", () -> z.word(49));
        Check.same("nothing is added", z.clear(), 8);
        Check.same("room again", z.word(0), 1);
        House.draft(z, 1, 1, 1, 1, 1, 1, 1);
        Check.same("the eighth", z.word(1), 8);
    }

    private static void promise3Clear() {
        Doc.promise(3);
        Doc.says("Empties the draft. Returns how many words it had.");
        TermGate x = new TermGate();
        Check.same("of an empty draft", x.clear(), 0);
        for (int length = 1; length <= 8; length++) {
            House.draft(x, new int[length]);
            Check.same("of a draft of " + length, x.clear(), length);
            Check.same("it is empty then", x.clear(), 0);
            Check.throwsState("there is nothing to order then", () -> x.order(0, false));
        }
        Check.same("it can be filled anew", x.word(7), 1);
    }

    private static void promise4Likeness() {
        Doc.promise(4);
        Doc.says("Returns the likeness of the draft and a sold sentence.");
        TermGate x = new TermGate();
        House.sell(x, 0, false, 1, 2);
        Check.same("of the same", x.likeness(0), 100);
        House.draft(x, 1);
        Check.same("of the half", x.likeness(0), 50);
        x.setPrices(100, 10, 6);
        Check.same("of the half, below the least", x.likeness(0), 50);
        House.draft(x, 3);
        Check.same("of another one", x.likeness(0), 0);
        House.rule(x, 0, 1, 99);
        House.draft(x, 1, 2);
        Check.same("of a due one", x.likeness(0), 100);

        Doc.says("Throws `IndexOutOfBoundsException` if there is no such sentence");
        TermGate y = House.drafted(1);
        Check.throwsPlace("the first, while none is sold", () -> y.likeness(0));
        y.order(0, false);
        y.take(3);
        Check.throwsPlace("an order that is not sold", () -> y.likeness(0));
        y.translate(3, 0, 5);
        y.deliver(3);
        Check.same("the first", y.likeness(0), 100);
        Check.refusesPlaces(House.outside(0, 0), wrong -> y.likeness(wrong));
        y.clear();
        Check.throwsPlace("with an empty draft", () -> y.likeness(1));
        TermGate full = House.havingSold(40);
        Check.same("the last of 40", full.likeness(39), 100);
        Check.refusesPlaces(House.outside(0, 39), wrong -> full.likeness(wrong));

        Doc.says("Throws `IllegalStateException` if the draft is empty");
        Check.throwsState("emptied", () -> y.likeness(0));
        y.word(9);
        Check.same("one word is enough", y.likeness(0), 0);
    }

    private static void promise5Best() {
        Doc.promise(5);
        Doc.says("Returns the best match of the draft for a client, found over an index of words.");
        checkBestAnswers(false);
        Doc.says("- `client`: 0 to 3");
        checkBestForEachClient(false);
        Doc.says("Returns the sentence, -1 if there is none.");
        checkBestIfThereIsNone(false);
        Doc.says("Throws `IllegalArgumentException` if client is out of range");
        checkBestRefusesClients(false);
        Doc.says("Throws `IllegalStateException` if the draft is empty");
        checkBestRefusesEmptyDraft(false);
    }

    private static void promise6BestByAll() {
        Doc.promise(6);
        Doc.says("Returns the same, by comparing all sentences.");
        checkBestAnswers(true);
        Doc.says("- `client`: 0 to 3");
        checkBestForEachClient(true);
        Doc.says("Returns the sentence, -1 if there is none.");
        checkBestIfThereIsNone(true);
        Doc.says("Throws `IllegalArgumentException` if client is out of range");
        checkBestRefusesClients(true);
        Doc.says("Throws `IllegalStateException` if the draft is empty");
        checkBestRefusesEmptyDraft(true);
    }

    private static int best(TermGate x, boolean isByAll, int client) {
        return isByAll ? x.bestByAll(client) : x.best(client);
    }

    private static void checkBestAnswers(boolean isByAll) {
        TermGate x = new TermGate();
        House.sell(x, 0, false, 0, 49, 1);
        House.sell(x, 1, false, 49);
        House.sell(x, 2, false, 0, 0, 0, 0, 0, 0, 0, 49);
        House.draft(x, 49);
        Check.same("one word of the highest", best(x, isByAll, 0), 1);
        House.draft(x, 0, 0, 0, 0, 0, 0, 0, 1);
        Check.same("eight words of the lowest", best(x, isByAll, 0), 2);
        House.draft(x, 0, 49);
        Check.same("two of three words", best(x, isByAll, 3), 0);
    }

    private static void checkBestForEachClient(boolean isByAll) {
        TermGate x = new TermGate();
        for (int client : new int[] {2, 0, 3, 1}) {
            House.sell(x, client, false, 1);
        }
        Check.same("the client 0", best(x, isByAll, 0), 1);
        Check.same("the client 1", best(x, isByAll, 1), 3);
        Check.same("the client 2", best(x, isByAll, 2), 0);
        Check.same("the client 3", best(x, isByAll, 3), 2);
    }

    private static void checkBestIfThereIsNone(boolean isByAll) {
        TermGate x = House.drafted(1);
        Check.same("while none is sold", best(x, isByAll, 0), NONE);
        x.order(0, false);
        x.take(3);
        Check.same("while the only one is not sold", best(x, isByAll, 0), NONE);
        x.translate(3, 0, 5);
        x.deliver(3);
        Check.same("the first", best(x, isByAll, 0), 0);
        House.rule(x, 0, 1, 6);
        Check.same("the only one is due", best(x, isByAll, 0), NONE);
        x.mend(0);
        Check.same("the only one was due", best(x, isByAll, 0), 0);
        House.draft(x, 2);
        Check.same("the only one is not like it", best(x, isByAll, 0), NONE);
        x.setPrices(1, 10, 6);
        Check.same("the likeness 0 is below the lowest least one", best(x, isByAll, 0), NONE);
        TermGate full = House.havingSold(40);
        Check.same("the last of 40", best(full, isByAll, 0), 39);
        Check.same("the last of 40, for others", best(full, isByAll, 3), 39);
        House.rule(full, 0, 1, 6);
        Check.same("all 40 are due", best(full, isByAll, 0), NONE);
        full.mend(0);
        Check.same("39 of 40 are due", best(full, isByAll, 0), 0);
    }

    private static void checkBestRefusesClients(boolean isByAll) {
        TermGate x = House.drafted(1);
        Check.refusesArguments(House.outside(0, 3), wrong -> best(x, isByAll, wrong));
        x.clear();
        Check.refusesArguments(House.outside(0, 3), wrong -> best(x, isByAll, wrong));
    }

    private static void checkBestRefusesEmptyDraft(boolean isByAll) {
        TermGate x = new TermGate();
        Check.throwsState("at first", () -> best(x, isByAll, 0));
        x.word(1);
        Check.same("one word is enough", best(x, isByAll, 0), NONE);
        House.sellDraft(x);
        x.clear();
        Check.throwsState("emptied", () -> best(x, isByAll, 3));
    }

    private static void promise7Cost() {
        Doc.promise(7);
        Doc.says("Returns what an order of the draft would cost, if it was taken now.");
        TermGate x = House.drafted(1, 2, 3, 4, 5, 6, 7, 8);
        Check.same("at first", x.cost(0, false), 80);
        Check.same("rush, at first", x.cost(0, true), 120);
        x.setPrices(50, 100, 6);
        Check.same("at the highest price", x.cost(0, false), 800);
        Check.same("rush, at the highest price", x.cost(0, true), 1200);
        x.setPrices(50, 0, 6);
        Check.same("at no price", x.cost(0, false), 0);
        Check.same("rush, at no price", x.cost(0, true), 0);
        x.setPrices(50, 1, 6);
        House.draft(x, 1);
        Check.same("the lowest", x.cost(0, false), 1);
        Check.same("the half of it is rounded down", x.cost(0, true), 1);
        House.sellDraft(x);
        Check.same("with a match, rounded down to nothing", x.cost(0, false), 0);
        Check.same("nothing is ordered", x.waiting(true) + x.waiting(false), 0);

        Doc.says("- `client`: 0 to 3");
        TermGate y = House.drafted(1, 2);
        for (int client = 0; client < 4; client++) {
            Check.same("the client " + client, y.cost(client, false), 20);
        }

        Doc.says("Throws `IllegalArgumentException` if client is out of range");
        Check.refusesArguments(House.outside(0, 3), wrong -> y.cost(wrong, false));
        Check.refusesArguments(House.outside(0, 3), wrong -> y.cost(wrong, true));
        y.clear();
        Check.refusesArguments(House.outside(0, 3), wrong -> y.cost(wrong, false));

        Doc.says("Throws `IllegalStateException` if the draft is empty");
        Check.throwsState("emptied", () -> y.cost(0, false));
        Check.throwsState("emptied, rush", () -> y.cost(3, true));
        y.word(0);
        Check.same("one word is enough", y.cost(0, false), 10);
    }
}
