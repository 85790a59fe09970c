/** The document's chapter of terms, sentence by sentence, at the edges that it names. */
public final class TermsBoundariesTest {
    private static final int NONE = House.NONE;

    public static void main(String[] args) {
        Doc.terms();
        whoTheyAre();
        words();
        lengths();
        edits();
        likenesses();
        soldSentences();
        voices();
        dueSentences();
        dueList();
        dueListLeft();
        matches();
        bestMatches();
        pairs();
        pairsEnd();
        ordersAndStates();
        desks();
        taking();
        givingBack();
        canBeDelivered();
        shares();
        costs();
        pay();
        moneyOfThen();
        mending();
        mendingPrices();
        calls();
        Check.end();
    }

    /** A call with a number that has a range. */
    private interface Call {
        void on(TermGate x, int number);
    }

    /** The first and the last number of the range are taken, though the state may refuse them; all outside are not. */
    private static void checkRange(int from, int to, Call... calls) {
        for (Call call : calls) {
            for (int allowed = from; allowed <= to; allowed++) {
                Check.same("with " + allowed, House.bit(isArgumentRefused(call, allowed)), 0);
            }
            for (int wrong : House.outside(from, to)) {
                Check.same("with " + wrong, House.bit(isArgumentRefused(call, wrong)), 1);
            }
        }
    }

    private static boolean isArgumentRefused(Call call, int number) {
        TermGate x = House.drafted(1);
        try {
            call.on(x, number);
            return false;
        } catch (IllegalStateException refusedForItsState) {
            return false;
        } catch (IllegalArgumentException refused) {
            return true;
        }
    }

    private static void whoTheyAre() {
        Doc.says("Clients are 0 to 3, translators 0 to 3, terminologists 0 to 2.");
        checkRange(0, 3, (x, client) -> x.best(client), (x, client) -> x.bestByAll(client),
            (x, client) -> x.cost(client, true), (x, client) -> x.order(client, true),
            (x, client) -> x.say(0, client, 0, 0), (x, client) -> x.ruling(client, 0), (x, client) -> x.paid(client));
        checkRange(0, 3, (x, who) -> x.take(who), (x, who) -> x.giveBack(who), (x, who) -> x.translate(who, 0, 0),
            (x, who) -> x.deliver(who), (x, who) -> x.why(who), (x, who) -> x.wherefore(who),
            (x, who) -> x.became(who, 0), (x, who) -> x.match(who), (x, who) -> x.earned(who));
        checkRange(0, 2, (x, who) -> x.say(who, 0, 0, 0));
    }

    private static void words() {
        Doc.says("Words that are translated are 0 to 49, words that they become 0 to 99.");
        checkRange(0, 49, (x, word) -> x.word(word), (x, word) -> x.say(0, 0, word, 0),
            (x, word) -> x.ruling(0, word));
        checkRange(0, 99, (x, becomes) -> x.translate(0, 0, becomes));
        checkRange(-1, 99, (x, becomes) -> x.say(0, 0, 0, becomes));
    }

    private static void lengths() {
        Doc.says("A sentence is a row of 1 to 8 words.");
        Check.throwsState("none", () -> new TermGate().order(0, false));
        for (int length = 1; length <= 8; length++) {
            TermGate x = new TermGate();
            int[] row = new int[length];
            row[length - 1] = 49;
            House.sell(x, 0, false, row);
            Check.same("the last word", x.wordOf(0, length - 1), 49);
            Check.same("what it became", x.becameOf(0, length - 1), 99);
            int behind = length;
            Check.throwsPlace("one word more", () -> x.wordOf(0, behind));
        }
        TermGate nine = House.drafted(1, 2, 3, 4, 5, 6, 7, 8);
        Check.throwsState("a ninth word", () -> nine.word(9));
        nine.order(0, false);
        nine.take(0);
        Check.throwsPlace("a ninth place", () -> nine.became(0, 8));
    }

    /** The likeness of two rows, which is the same both ways. */
    private static void checkLikeness(String what, int want, int[] row, int[] other) {
        for (int way = 0; way < 2; way++) {
            TermGate x = new TermGate();
            House.sell(x, 0, false, way == 0 ? other : row);
            House.draft(x, way == 0 ? row : other);
            Check.same(what, x.likeness(0), want);
        }
    }

    private static int[] row(int... words) {
        return words;
    }

    private static void edits() {
        Doc.says("The edits from one row to another one are the least number of steps,"
            + " each of which takes a word away, puts one in, or changes one.");
        checkLikeness("no step", 100, row(1, 2, 3, 4), row(1, 2, 3, 4));
        checkLikeness("the first word away", 75, row(1, 2, 3, 4), row(2, 3, 4));
        checkLikeness("one within away", 75, row(1, 2, 3, 4), row(1, 2, 4));
        checkLikeness("the last word away", 75, row(1, 2, 3, 4), row(1, 2, 3));
        checkLikeness("the first word changed", 75, row(1, 2, 3, 4), row(9, 2, 3, 4));
        checkLikeness("one within changed", 75, row(1, 2, 3, 4), row(1, 2, 9, 4));
        checkLikeness("the last word changed", 75, row(1, 2, 3, 4), row(1, 2, 3, 9));
        checkLikeness("away and in is less than four changes", 50, row(1, 2, 3, 4), row(2, 3, 4, 5));
        checkLikeness("two words that changed places", 50, row(1, 2, 3, 4), row(1, 3, 2, 4));
        checkLikeness("away, in and changed", 25, row(1, 2, 3, 4), row(2, 9, 4, 5));
        checkLikeness("the same word too often", 25, row(1, 1, 1, 1), row(1));
        checkLikeness("each word of eight is another", 0, row(1, 2, 3, 4, 5, 6, 7, 8), row(9, 9, 9, 9, 9, 9, 9, 9));
        checkLikeness("each is there, and none in its place", 0, row(1, 2), row(2, 1));
        checkLikeness("seven in", 12, row(8), row(1, 2, 3, 4, 5, 6, 7, 8));
        checkLikeness("seven in behind it", 12, row(1), row(1, 2, 3, 4, 5, 6, 7, 8));
        checkLikeness("the other way round", 0, row(1, 2, 3, 4, 5, 6, 7, 8), row(8, 7, 6, 5, 4, 3, 2, 9));
    }

    /** So many words from 0 on, of which so many at the beginning are others. */
    private static int[] changedAtFront(int length, int changed) {
        int[] row = new int[length];
        for (int place = 0; place < length; place++) {
            row[place] = place < changed ? 40 + place : place;
        }
        return row;
    }

    private static void likenesses() {
        Doc.says("The likeness of two rows is 100 less a quotient: 100 times the edits, divided by the greater one"
            + " of both lengths, and this rounded up (1 edit of 3 words: 66).");
        int[][] wants = {{100, 0}, {100, 50, 0}, {100, 66, 33, 0}, {100, 75, 50, 25, 0}, {100, 80, 60, 40, 20, 0},
            {100, 83, 66, 50, 33, 16, 0}, {100, 85, 71, 57, 42, 28, 14, 0}, {100, 87, 75, 62, 50, 37, 25, 12, 0}};
        for (int length = 1; length <= 8; length++) {
            TermGate x = new TermGate();
            House.sell(x, 0, false, changedAtFront(length, 0));
            for (int edits = 0; edits <= length; edits++) {
                House.draft(x, changedAtFront(length, edits));
                Check.same(edits + " edits of " + length + " words", x.likeness(0), wants[length - 1][edits]);
                if (edits > 0 && edits < length) {
                    House.draft(x, changedAtFront(length - edits, 0));
                    Check.same(edits + " words less than " + length, x.likeness(0), wants[length - 1][edits]);
                }
            }
        }
        for (int length = 2; length <= 8; length++) {
            TermGate x = new TermGate();
            House.sell(x, 0, false, 0);
            House.draft(x, changedAtFront(length, 0));
            Check.same("the draft is the longer one", x.likeness(0), wants[length - 1][length - 1]);
        }
    }

    private static void soldSentences() {
        Doc.says("A sold sentence has a number, from 0 on, at most 40 ever, a client, its words,"
            + " and for each of them what it became.");
        TermGate x = House.drafted(1);
        for (int number = 0; number < 40; number++) {
            Check.same("sentence no. " + number, House.sellDraft(x), number);
        }
        House.rule(x, 0, 1, 6);
        x.mend(0);
        x.order(3, true);
        x.take(0);
        x.translate(0, 0, 6);
        Check.throwsState("the 41st, with 39 that are due", () -> x.deliver(0));
        Check.same("the client of the last", x.clientOf(39), 0);
        Check.same("its word", x.wordOf(39, 0), 1);
        Check.same("what it became", x.becameOf(39, 0), 5);
        Check.throwsPlace("no 41st", () -> x.clientOf(40));
    }

    private static void voices() {
        Doc.says("A terminologist can say for a client and a word what it is to become, or nothing, as at first.");
        TermGate x = new TermGate();
        Check.same("nothing at first", x.ruling(0, 0), NONE);
        x.say(0, 0, 0, -1);
        x.say(1, 0, 0, 0);
        Check.same("one says nothing", x.ruling(0, 0), NONE);
        x.say(0, 0, 0, 0);
        Check.same("both say the lowest", x.ruling(0, 0), 0);
        x.say(0, 0, 0, -1);
        Check.same("one says nothing again", x.ruling(0, 0), NONE);

        Doc.says("A word is ruled for a client, if two terminologists or more say the same; that is its ruling.");
        TermGate y = new TermGate();
        y.say(0, 0, 0, 5);
        Check.same("one", y.ruling(0, 0), NONE);
        y.say(0, 0, 0, 5);
        Check.same("one who says it twice", y.ruling(0, 0), NONE);
        y.say(1, 0, 0, 6);
        y.say(2, 0, 0, 7);
        Check.same("three who say three things", y.ruling(0, 0), NONE);
        y.say(1, 0, 0, 7);
        Check.same("two of three", y.ruling(0, 0), 7);
        y.say(0, 0, 0, 7);
        Check.same("all three", y.ruling(0, 0), 7);
        y.say(2, 0, 0, 5);
        Check.same("two of three still", y.ruling(0, 0), 7);
        y.say(1, 0, 0, 5);
        Check.same("two others of three", y.ruling(0, 0), 5);
    }

    private static void dueSentences() {
        Doc.says("A sold sentence is due for mending, if some word of it is ruled for its client,"
            + " and became something else.");
        TermGate x = new TermGate();
        House.sell(x, 0, false, 0, 1, 2, 3, 4, 5, 6, 49);
        House.rule(x, 1, 0, 0);
        Check.same("ruled for another client", x.due(), 0);
        House.rule(x, 0, 10, 0);
        Check.same("a word that it has not", x.due(), 0);
        House.rule(x, 0, 0, 50);
        Check.same("ruled as it became", x.due(), 0);
        House.rule(x, 0, 0, 49);
        Check.same("the first of its words", x.due(), 1);
        House.rule(x, 0, 0, -1);
        Check.same("ruled no more", x.due(), 0);
        House.rule(x, 0, 49, 0);
        Check.same("the last of its words", x.due(), 1);
    }

    private static void checkList(String when, TermGate x, int... sentences) {
        Check.same("due() " + when, x.due(), sentences.length);
        for (int place = 0; place < sentences.length; place++) {
            Check.same("dueAt(" + place + ") " + when, x.dueAt(place), sentences[place]);
        }
        Check.throwsPlace("dueAt behind the last " + when, () -> x.dueAt(sentences.length));
    }

    private static void dueList() {
        Doc.says("The list has all sentences that are due, in the order in which they became so,"
            + " of several that became so by one call the lower number first");
        TermGate x = new TermGate();
        for (int word : new int[] {1, 2, 3, 1, 2, 3}) {
            House.sell(x, 0, false, word);
        }
        checkList("at first", x);
        House.rule(x, 0, 3, 0);
        checkList("two by one call", x, 2, 5);
        House.rule(x, 0, 1, 0);
        checkList("two by a later call", x, 2, 5, 0, 3);
        House.rule(x, 0, 2, 0);
        checkList("all", x, 2, 5, 0, 3, 1, 4);
        x.say(2, 0, 3, 1);
        x.say(0, 0, 3, 1);
        checkList("ruled another way by one call, they were due before", x, 2, 5, 0, 3, 1, 4);
        House.sell(x, 0, true, 3);
        checkList("a rush order as it is delivered", x, 2, 5, 0, 3, 1, 4, 6);
    }

    private static void dueListLeft() {
        Doc.says("one that is due no more leaves the list.");
        TermGate x = House.havingSold(4);
        House.rule(x, 0, 1, 6);
        checkList("all four", x, 0, 1, 2, 3);
        x.mend(2);
        checkList("one within was mended", x, 0, 1, 3);
        x.mend(0);
        checkList("the first was mended", x, 1, 3);
        x.mend(3);
        checkList("the last was mended", x, 1);
        x.say(2, 0, 1, 7);
        x.say(0, 0, 1, 7);
        checkList("the one that was due before is ahead", x, 1, 0, 2, 3);
        House.rule(x, 0, 1, -1);
        checkList("all are ruled no more", x);
        House.rule(x, 0, 1, 7);
        checkList("due again, by one call", x, 0, 1, 2, 3);
        House.rule(x, 0, 1, 5);
        checkList("ruled as one of them became", x, 0, 2, 3);
    }

    private static void checkBest(String what, TermGate x, int client, int want) {
        Check.same("best: " + what, x.best(client), want);
        Check.same("bestByAll: " + what, x.bestByAll(client), want);
    }

    private static void matches() {
        Doc.says("A match of a row for a client is a sold sentence that is not due,"
            + " with a likeness that is at least the least one, 50 at first.");
        TermGate x = new TermGate();
        House.sell(x, 0, false, 1, 2, 3, 4, 5, 6, 7);
        House.sell(x, 0, false, 11, 12, 13, 14, 15, 16, 17, 18);
        House.draft(x, 1, 2, 3);
        checkBest("42 is too little at first", x, 0, NONE);
        x.setPrices(43, 10, 6);
        checkBest("42 is too little for 43", x, 0, NONE);
        x.setPrices(42, 10, 6);
        checkBest("42 is enough for 42", x, 0, 0);
        x.setPrices(50, 10, 6);
        House.draft(x, 11, 12, 13, 14);
        checkBest("50 is enough for 50", x, 0, 1);
        x.setPrices(51, 10, 6);
        checkBest("50 is too little for 51", x, 0, NONE);
        TermGate y = new TermGate();
        House.sell(y, 0, false, 11, 12, 13, 14, 15, 16, 17, 18);
        House.draft(y, 11, 12, 13, 14);
        checkBest("50 is enough at first", y, 0, 0);
        House.rule(y, 1, 11, 0);
        checkBest("ruled for another client", y, 1, 0);
        House.rule(y, 0, 18, 0);
        checkBest("due for a word that the draft has not", y, 0, NONE);
        y.mend(0);
        checkBest("due no more", y, 0, 0);
    }

    private static void bestMatches() {
        Doc.says("The best match is the one with the greatest likeness; of several one of the same client"
            + " ahead of others; of several of these that with the greatest number.");
        TermGate x = new TermGate();
        House.sell(x, 0, false, 1, 2, 3);
        House.sell(x, 1, false, 1, 2, 4);
        House.sell(x, 1, false, 1, 2, 5);
        House.sell(x, 2, false, 1, 2, 6);
        House.draft(x, 1, 2, 4);
        checkBest("the greatest likeness is another client's, and of a lower number", x, 2, 1);
        House.draft(x, 1, 2, 9);
        checkBest("the same client's is the lowest number", x, 0, 0);
        checkBest("of two of the same client's the greatest number", x, 1, 2);
        checkBest("of four others the greatest number", x, 3, 3);
        House.rule(x, 1, 5, 0);
        checkBest("the other one of the same client's", x, 1, 1);
        House.rule(x, 1, 4, 0);
        checkBest("of two others the greatest number", x, 1, 3);
    }

    /** Checks with which places of the only sentence, each become another thing, the words of a row are paired. */
    private static void checkPaired(String what, int[] sold, int[] row, int... want) {
        TermGate x = House.holding(3, 0, false, sold);
        for (int place = 0; place < sold.length; place++) {
            x.translate(3, place, 10 + place);
        }
        x.deliver(3);
        x.setPrices(1, 10, 6);
        House.draft(x, row);
        x.order(1, false);
        x.take(2);
        for (int place = 0; place < want.length; place++) {
            Check.same(what + ", at " + place, x.became(2, place), want[place] == NONE ? NONE : 10 + want[place]);
        }
        Check.throwsPlace(what + ", behind the last", () -> x.became(2, want.length));
    }

    private static void pairs() {
        Doc.says("A row and its best match are paired from their ends on: if the last words of what is left of both"
            + " are the same, these are paired, and both are taken away; otherwise the last word of the row is taken"
            + " away, or that of the match, or both: the first of these three behind which the edits between what is"
            + " left of both are least.");
        checkPaired("one word each", row(0), row(0), 0);
        checkPaired("eight words each", row(0, 1, 2, 3, 4, 5, 6, 49), row(0, 1, 2, 3, 4, 5, 6, 49),
            0, 1, 2, 3, 4, 5, 6, 7);
        checkPaired("the row's alone is least", row(1), row(1, 2), 0, NONE);
        checkPaired("the match's alone is least", row(1, 2), row(1), 0);
        checkPaired("both alone is least", row(7, 7), row(7, 8), 0, NONE);
        checkPaired("the row's goes ahead of the match's", row(1, 2, 1), row(1, 1, 2), 0, 2, NONE);
        checkPaired("the row's goes ahead of both", row(1, 2), row(1, 1, 1), 0, NONE, NONE);
        checkPaired("the match's goes ahead of both", row(2, 1, 2), row(1, 1), NONE, 1);
        checkPaired("of equal words the match's last one", row(7, 7, 7), row(7), 2);
        checkPaired("of equal words the row's last one", row(7), row(7, 7, 7), NONE, NONE, 0);
        checkPaired("no match", row(1, 2), row(3, 4), NONE, NONE);
    }

    private static void pairsEnd() {
        Doc.says("That ends when one has nothing left.");
        checkPaired("the match first", row(8), row(1, 2, 3, 4, 5, 6, 7, 8),
            NONE, NONE, NONE, NONE, NONE, NONE, NONE, 0);
        checkPaired("the match, by its first word", row(1), row(1, 2, 3, 4, 5, 6, 7, 8),
            0, NONE, NONE, NONE, NONE, NONE, NONE, NONE);
        checkPaired("the row first", row(1, 2, 3, 4, 5, 6, 7, 8), row(8), 7);
        checkPaired("the row, by the match's first word", row(1, 2, 3, 4, 5, 6, 7, 8), row(1), 0);
        checkPaired("both at once", row(1, 2), row(1, 2), 0, 1);
        checkPaired("both at once, by two words that differ", row(1, 2), row(3, 2), NONE, 1);
        checkPaired("far more steps than words", row(1, 4, 4, 0, 2, 3, 1, 4), row(1, 4, 2, 1, 4, 1, 3, 2),
            0, 2, 4, 6, 7, NONE, NONE, NONE);
    }

    private static void ordersAndStates() {
        Doc.says("Orders are numbered from 0, at most 60 ever");
        TermGate x = House.drafted(1);
        for (int number = 0; number < 60; number++) {
            Check.same("order no. " + number, x.order(0, number % 2 == 1), number);
            if (number < 40) {
                x.take(0);
                x.translate(0, 0, 5);
                x.deliver(0);
            }
        }
        Check.throwsState("the 61st, with 40 that are sold", () -> x.order(0, false));
        Check.throwsPlace("no 61st", () -> x.orderAt(60));

        Doc.says("An order waits, is with a translator, or is sold.");
        Check.same("the first is sold", x.orderAt(0), -2);
        Check.same("the 40th is sold", x.orderAt(39), -2);
        Check.same("the 41st waits", x.orderAt(40), -1);
        Check.same("the last waits", x.orderAt(59), -1);
        x.take(3);
        Check.same("the first rush order is with the translator", x.orderAt(41), 3);
    }

    private static void desks() {
        Doc.says("A translator who has none takes the rush order that waits first; if there is none,"
            + " the other order that waits first.");
        TermGate x = House.drafted(1);
        x.order(0, false);
        x.order(0, false);
        x.order(0, true);
        x.order(0, true);
        Check.same("the first rush order", x.take(0), 2);
        Check.same("the last rush order", x.take(1), 3);
        Check.same("the first of the others", x.take(2), 0);
        Check.same("the last of the others", x.take(3), 1);
        x.giveBack(1);
        x.giveBack(2);
        Check.same("the rush order again", x.take(2), 3);
        Check.same("the other again", x.take(1), 0);
        x.giveBack(3);
        Check.same("the only one that waits", x.take(3), 1);
    }

    private static void taking() {
        Doc.says("As it is taken, its match is the best one of then, and each word that is paired has what its word"
            + " in the match has become by then; all others have nothing so far.");
        TermGate x = House.drafted(1, 2, 3);
        x.order(0, false);
        x.order(0, false);
        x.order(0, false);
        x.order(0, false);
        x.take(0);
        Check.same("no match as it is taken", x.match(0), NONE);
        Check.same("nothing so far", x.became(0, 2), NONE);
        for (int place = 0; place < 3; place++) {
            x.translate(0, place, place);
        }
        x.deliver(0);
        Check.same("taken before, it has no match", x.take(0), 1);
        Check.same("ordered before, it has the match of then", x.match(0), 0);
        Check.same("the lowest of all", x.became(0, 0), 0);
        House.rule(x, 0, 3, 99);
        x.mend(0);
        Check.same("what it became stays, mended or not", x.became(0, 2), 2);
        x.take(1);
        Check.same("what it has become by then", x.became(1, 2), 99);
        House.rule(x, 0, 1, 98);
        x.take(2);
        Check.same("the only one is due as it is taken", x.match(2), NONE);
        Check.same("nothing so far", x.became(2, 2), NONE);
        checkPaired("a word that is not paired", row(1, 2), row(1, 4, 2), 0, NONE, 1);
    }

    private static void givingBack() {
        Doc.says("A translator who gives an order back puts it ahead of all that wait at its desk;"
            + " what its words became is lost, and its match.");
        TermGate x = new TermGate();
        House.sell(x, 0, false, 1);
        House.draft(x, 1, 2);
        x.order(0, false);
        x.order(0, false);
        x.order(0, false);
        x.take(0);
        x.take(1);
        x.translate(0, 1, 9);
        Check.same("it has a match", x.match(0), 0);
        House.rule(x, 0, 1, 9);
        x.giveBack(1);
        x.giveBack(0);
        Check.same("the last one that was given back", x.take(2), 1);
        Check.same("its match is lost", x.match(2), NONE);
        Check.same("what it had of the match is lost", x.became(2, 0), NONE);
        Check.same("what it was translated to is lost", x.became(2, 1), NONE);
        Check.same("the first one that was given back", x.take(0), 2);
        Check.same("the one that was never taken", x.take(1), 3);
        Check.same("nothing else", x.take(3), NONE);
        x.giveBack(0);
        Check.same("the only one of its desk", x.take(0), 2);
    }

    private static void canBeDelivered() {
        Doc.says("An order can be delivered, if each of its words became something, and, if it is no rush order,"
            + " each one that is ruled for the client became its ruling.");
        for (boolean isRush : new boolean[] {false, true}) {
            TermGate x = House.holding(0, 0, isRush, 0, 1, 2, 3, 4, 5, 6, 7);
            House.rule(x, 1, 0, 60);
            for (int place = 0; place < 8; place++) {
                Check.throwsState("a word became nothing", () -> x.deliver(0));
                x.translate(0, place, place == 7 ? 0 : 99);
            }
            Check.same("each became something", x.why(0), 0);
            House.rule(x, 0, 7, 1);
            Check.same("the last is not its ruling", x.why(0), isRush ? 0 : 2);
            x.translate(0, 7, 1);
            Check.same("the last is its ruling", x.why(0), 0);
            House.rule(x, 0, 0, 0);
            Check.same("the first is not its ruling", x.why(0), isRush ? 0 : 2);
            x.translate(0, 0, isRush ? 1 : 0);
            Check.same("delivered", x.deliver(0), 0);
            Check.same("a rush order is due at once", x.due(), isRush ? 1 : 0);
        }

        Doc.says("It is a sold sentence then.");
        TermGate y = House.havingSold(1);
        Check.same("its order is sold", y.orderAt(0), -2);
        Check.same("there is one more", y.sold(), 1);
        Check.same("it is a match", y.best(0), 0);
    }

    private static void shares() {
        Doc.says("The share of a row is 100 without a match, 20 with one of the likeness 100, 50 from 85 on,"
            + " 70 from 70 on, otherwise 90.");
        int[][] wants = {{20, 100}, {20, 90, 100}, {20, 90, 90, 100}, {20, 70, 90, 90, 100},
            {20, 70, 90, 90, 90, 100}, {20, 70, 90, 90, 90, 90, 100}, {20, 50, 70, 90, 90, 90, 90, 100},
            {20, 50, 70, 90, 90, 90, 90, 90, 100}};
        for (int length = 1; length <= 8; length++) {
            TermGate x = new TermGate();
            x.setPrices(1, 100, 100);
            House.sell(x, 0, false, changedAtFront(length, 0));
            for (int edits = 0; edits <= length; edits++) {
                House.draft(x, changedAtFront(length, edits));
                String what = edits + " edits of " + length + " words";
                Check.same(what, x.cost(0, false), length * wants[length - 1][edits]);
            }
        }
        TermGate high = new TermGate();
        House.sell(high, 0, false, 1, 2, 3, 4, 5, 6, 7);
        House.draft(high, 1, 2, 3, 4, 5, 6, 9);
        high.setPrices(85, 100, 6);
        Check.same("85 is a match for 85", high.cost(0, false), 350);
        high.setPrices(86, 100, 6);
        Check.same("without a match for 86", high.cost(0, false), 700);
    }

    private static void costs() {
        Doc.says("An order costs its number of words times the price, 10 at first, times the share, divided by 100,"
            + " rounded down; a rush order half of that, rounded down, more.");
        TermGate x = House.drafted(1);
        Check.same("one word at first", x.cost(0, false), 10);
        Check.same("one word of a rush order at first", x.cost(0, true), 15);
        x.setPrices(50, 3, 6);
        Check.same("an odd cost", x.cost(0, false), 3);
        Check.same("half of 3 is rounded down", x.cost(0, true), 4);
        House.sellDraft(x);
        x.setPrices(50, 4, 6);
        Check.same("0.8 is rounded down", x.cost(0, false), 0);
        Check.same("and nothing more for the rush", x.cost(0, true), 0);
        x.setPrices(50, 5, 6);
        Check.same("1.0 is 1", x.cost(0, false), 1);
        Check.same("half of 1 is rounded down", x.cost(0, true), 1);
        x.setPrices(50, 9, 6);
        Check.same("1.8 is rounded down", x.cost(0, false), 1);
        Check.same("half of the 1 that is left is rounded down", x.cost(0, true), 1);
        x.setPrices(50, 10, 6);
        Check.same("2.0 is 2", x.cost(0, false), 2);
        Check.same("half of 2", x.cost(0, true), 3);
        for (boolean isRush : new boolean[] {false, true}) {
            TermGate y = new TermGate();
            y.setPrices(50, 7, 6);
            y.word(1);
            y.order(0, isRush);
            y.take(0);
            y.translate(0, 0, 5);
            y.deliver(0);
            Check.same("paid as told", y.paid(0), isRush ? 10 : 7);
        }
    }

    private static void pay() {
        Doc.says("The translator gets the number of words times the rate, 6 at first, times the share,"
            + " divided by 100, rounded down.");
        int[][] ratesAndPays = {{6, 1}, {0, 0}, {4, 0}, {5, 1}, {9, 1}, {10, 2}, {99, 19}, {100, 20}};
        for (int[] rateAndPay : ratesAndPays) {
            for (boolean isRush : new boolean[] {false, true}) {
                TermGate x = House.havingSold(1);
                Check.same("one word at first", x.earned(3), 6);
                if (rateAndPay[0] != 6) {
                    x.setPrices(50, 100, rateAndPay[0]);
                }
                x.order(0, isRush);
                x.take(0);
                x.deliver(0);
                Check.same("a share of 20 at the rate " + rateAndPay[0], x.earned(0), rateAndPay[1]);
            }
        }
        TermGate three = new TermGate();
        House.sell(three, 0, false, 1, 2, 3);
        House.draft(three, 1, 2, 9);
        three.setPrices(50, 10, 1);
        three.order(0, false);
        three.take(0);
        three.translate(0, 2, 5);
        three.deliver(0);
        Check.same("2.7 is rounded down, all words at once", three.earned(0), 2);
    }

    private static void moneyOfThen() {
        Doc.says("Both are told by share, price and rate as they are when the order is taken,"
            + " and are paid when it is delivered.");
        TermGate x = House.drafted(1);
        x.order(0, false);
        x.order(1, true);
        x.setPrices(50, 40, 20);
        x.take(0);
        x.take(1);
        x.setPrices(50, 0, 0);
        x.translate(0, 0, 5);
        x.translate(1, 0, 5);
        Check.same("nothing is paid before", x.paid(0) + x.paid(1) + x.earned(0) + x.earned(1), 0);
        x.deliver(0);
        Check.same("a rush order by the price of then", x.paid(1), 60);
        Check.same("by the rate of then", x.earned(0), 20);
        Check.same("nothing is paid for the other", x.paid(0), 0);
        x.deliver(1);
        Check.same("by the share of then, though there is a match by now", x.paid(0), 40);
        Check.same("pay by the share of then", x.earned(1), 20);
    }

    private static void mending() {
        Doc.says("Mending a sentence lets each of its words that is ruled for its client,"
            + " and became something else, become its ruling.");
        TermGate x = new TermGate();
        House.sell(x, 0, false, 0, 1, 2, 0, 3, 4, 5, 0);
        House.rule(x, 0, 0, 99);
        House.rule(x, 0, 1, 51);
        House.rule(x, 1, 2, 98);
        House.rule(x, 0, 5, 0);
        Check.same("four words", x.mend(0), 4);
        int[] want = {99, 51, 52, 99, 53, 54, 0, 99};
        for (int place = 0; place < 8; place++) {
            Check.same("at " + place, x.becameOf(0, place), want[place]);
        }
    }

    private static void mendingPrices() {
        Doc.says("For each of these the client gets 5 back, if the ruling was the same ever since the sentence"
            + " was sold, or longer; otherwise the client pays 3.");
        TermGate x = House.drafted(1);
        x.setPrices(100, 0, 0);
        x.order(0, true);
        x.take(3);
        x.translate(3, 0, 5);
        House.rule(x, 0, 1, 6);
        x.deliver(3);
        x.mend(0);
        Check.same("ruled just before it was sold", x.paid(0), -5);
        TermGate y = House.drafted(1);
        y.setPrices(100, 0, 0);
        House.sellDraft(y);
        House.rule(y, 0, 1, 6);
        y.mend(0);
        Check.same("ruled just behind it was sold", y.paid(0), 3);
        TermGate z = House.drafted(1);
        z.setPrices(100, 0, 0);
        House.rule(z, 0, 1, 6);
        for (int number = 0; number < 2; number++) {
            z.order(0, true);
            z.take(3);
            z.translate(3, 0, 5);
            z.deliver(3);
        }
        z.mend(1);
        Check.same("ruled before the one that was sold before it", z.paid(0), -5);
        z.say(0, 0, 1, -1);
        z.say(0, 0, 1, 6);
        z.mend(0);
        Check.same("not ruled for a while", z.paid(0), -5 + 3);
        z.order(0, true);
        z.take(3);
        z.translate(3, 0, 5);
        z.deliver(3);
        z.say(2, 0, 1, 6);
        z.say(0, 0, 1, -1);
        z.say(1, 1, 1, 6);
        z.mend(2);
        Check.same("ruled all the while, by others", z.paid(0), -5 + 3 - 5);
        mendingPricesOfEight();
    }

    private static void mendingPricesOfEight() {
        TermGate x = new TermGate();
        x.setPrices(100, 0, 0);
        for (int word = 0; word < 4; word++) {
            House.rule(x, 0, word, 0);
        }
        House.sell(x, 0, true, 0, 1, 2, 3, 4, 5, 6, 6);
        for (int word = 4; word < 7; word++) {
            House.rule(x, 0, word, 0);
        }
        Check.same("eight words", x.mend(0), 8);
        Check.same("four times 5 back, four times 3 paid", x.paid(0), -20 + 12);
        House.rule(x, 0, 0, 1);
        x.mend(0);
        Check.same("mended again", x.paid(0), -8 + 3);
    }

    /** Each object here is called 512 times, and the last answers are as due. */
    private static void calls() {
        Check.about("An object is used for at most 512 calls");
        TermGate x = new TermGate();
        for (int pair = 0; pair < 256; pair++) {
            x.word(pair % 50);
            Check.same("clear, call no. " + (2 * pair + 2), x.clear(), 1);
        }
        TermGate full = House.drafted(0, 1, 2, 3, 4, 5, 6, 7);
        int made = 9;
        for (int number = 0; number < 60; number++) {
            full.order(0, true);
            made++;
            if (number < 40) {
                full.take(0);
                for (int place = 0; place < 8 && number == 0; place++) {
                    full.translate(0, place, 5);
                    made++;
                }
                full.deliver(0);
                made += 2;
            }
        }
        for (; made < 510; made++) {
            full.best(made % 4);
        }
        Check.same("the 511th call", full.bestByAll(3), 39);
        Check.same("the 512th call", full.sold(), 40);
    }
}
