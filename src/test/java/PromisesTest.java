/** For each promise of the document: ordinary inputs, the edges that it names, and wrong inputs. */
public final class PromisesTest {
    private static final int NONE = -1;
    private static final int[] OUT_OF_CLIENTS = {-1, 4, Integer.MIN_VALUE, Integer.MAX_VALUE};
    private static final int[] OUT_OF_WORDS = {-1, 50, Integer.MIN_VALUE, Integer.MAX_VALUE};

    public static void main(String[] args) {
        promise1NewObject();
        promise2Word();
        promise3Clear();
        promise4Likeness();
        promises5And6Best();
        promises5And6LeastAndDue();
        promise7Cost();
        promise7Shares();
        promise8Order();
        promise9Take();
        promise9Pairs();
        promise9FixesPrices();
        promise10GiveBack();
        promise11Translate();
        promise12Deliver();
        promise12Limit();
        promises13And14Why();
        promise15Became();
        promise16Match();
        promise17Waiting();
        promise18OrderAt();
        promise19Say();
        promise20Ruling();
        promises21To24Sold();
        promise25IsDue();
        promises26And27Due();
        promise28Mend();
        promise28Prices();
        promise29SetPrices();
        promises30To32Money();
        Check.end();
    }

    // ---- shorthands

    private static int[] words(int... words) {
        return words;
    }

    private static void checkDue(TermGate x, String when, int... sentences) {
        Check.same("due() " + when, x.due(), sentences.length);
        for (int place = 0; place < sentences.length; place++) {
            Check.same("dueAt(" + place + ") " + when, x.dueAt(place), sentences[place]);
        }
        Check.throwsPlace("dueAt behind the last " + when, () -> x.dueAt(sentences.length));
    }

    private static void checkBest(TermGate x, String what, int client, int want) {
        Check.same("best: " + what, x.best(client), want);
        Check.same("bestByAll: " + what, x.bestByAll(client), want);
    }

    /** Checks all that the words of a translator's order have become. */
    private static void checkBecame(TermGate x, String what, int translator, int... want) {
        for (int place = 0; place < want.length; place++) {
            Check.same("became " + what + " at " + place, x.became(translator, place), want[place]);
        }
        Check.throwsPlace("became " + what + " behind the last", () -> x.became(translator, want.length));
    }

    // ---- promises

    private static void promise1NewObject() {
        TermGate x = new TermGate();
        Check.same("sold of a new object", x.sold(), 0);
        Check.same("waiting rush of a new object", x.waiting(true), 0);
        Check.same("waiting of a new object", x.waiting(false), 0);
        Check.same("purse of a new object", x.purse(), 0);
        Check.same("take of a new object", x.take(0), NONE);
        checkDue(x, "of a new object");
        for (int client = 0; client < 4; client++) {
            Check.same("paid of a new object", x.paid(client), 0);
            Check.same("earned of a new object", x.earned(client), 0);
            for (int word = 0; word < 50; word++) {
                Check.same("ruling of a new object", x.ruling(client, word), NONE);
            }
        }
        Check.throwsPlace("orderAt of a new object", () -> x.orderAt(0));
        Check.throwsPlace("clientOf of a new object", () -> x.clientOf(0));
        Check.same("clear of a new object", x.clear(), 0);
        House.draft(x, 1);
        Check.same("first order", x.order(0, false), 0);
        TermGate other = new TermGate();
        Check.same("another object's desk", other.waiting(false), 0);
        Check.same("another object's draft", other.clear(), 0);
    }

    private static void promise2Word() {
        TermGate x = new TermGate();
        for (int wrong : OUT_OF_WORDS) {
            Check.throwsArgument("word(" + wrong + ")", () -> x.word(wrong));
        }
        Check.same("word(0)", x.word(0), 1);
        Check.same("word(49)", x.word(49), 2);
        for (int has = 3; has <= 8; has++) {
            Check.same("word no. " + has, x.word(7), has);
        }
        Check.throwsState("ninth word", () -> x.word(7));
        Check.throwsArgument("ninth word, out of range", () -> x.word(50));
        Check.same("a refused word adds nothing", x.clear(), 8);
        Check.same("word behind clear", x.word(7), 1);
    }

    private static void promise3Clear() {
        TermGate x = new TermGate();
        Check.same("clear of an empty draft", x.clear(), 0);
        House.draft(x, 4, 4, 4);
        Check.same("clear of three", x.clear(), 3);
        Check.same("clear behind clear", x.clear(), 0);
        Check.throwsState("cost of a cleared draft", () -> x.cost(0, false));
    }

    private static void promise4Likeness() {
        TermGate x = new TermGate();
        Check.throwsPlace("likeness, no sentence and no draft", () -> x.likeness(0));
        House.sell(x, 0, false, 1, 2, 3);
        House.sell(x, 0, false, 1, 2, 3, 4, 5, 6, 7, 8);
        x.clear();
        Check.throwsState("likeness of an empty draft", () -> x.likeness(0));
        Check.throwsPlace("likeness of an empty draft, no sentence", () -> x.likeness(2));
        checkLikeness(x, 0, 100, 1, 2, 3);
        checkLikeness(x, 0, 66, 1, 2, 9);
        checkLikeness(x, 0, 66, 9, 2, 3);
        checkLikeness(x, 0, 66, 1, 3);
        checkLikeness(x, 0, 75, 1, 9, 2, 3);
        checkLikeness(x, 0, 33, 1);
        checkLikeness(x, 0, 33, 3, 1, 2);
        checkLikeness(x, 0, 40, 3, 1, 1, 2, 2);
        checkLikeness(x, 0, 20, 9, 9, 3, 1, 9);
        checkLikeness(x, 0, 33, 3, 2, 1);
        checkLikeness(x, 0, 0, 9);
        checkLikeness(x, 0, 0, 9, 9, 9, 9, 9, 9, 9, 9);
        checkLikeness(x, 1, 87, 1, 2, 3, 4, 5, 6, 7, 9);
        checkLikeness(x, 1, 87, 2, 3, 4, 5, 6, 7, 8);
        checkLikeness(x, 1, 75, 2, 3, 4, 5, 6, 7, 8, 9);
        checkLikeness(x, 1, 12, 9, 9, 9, 9, 9, 9, 9, 8);
        checkLikeness(x, 1, 12, 8);
        checkLikeness(x, 1, 37, 1, 2, 3);
        Check.throwsPlace("likeness(-1)", () -> x.likeness(-1));
        Check.throwsPlace("likeness(2)", () -> x.likeness(2));
        Check.throwsPlace("likeness(40)", () -> x.likeness(40));
        Check.throwsPlace("likeness of the least number", () -> x.likeness(Integer.MIN_VALUE));
        Check.throwsPlace("likeness of the greatest number", () -> x.likeness(Integer.MAX_VALUE));
        House.rule(x, 0, 1, 99);
        House.draft(x, 1, 2, 3);
        Check.same("likeness of a due sentence", x.likeness(0), 100);
    }

    private static void checkLikeness(TermGate x, int sentence, int want, int... words) {
        House.draft(x, words);
        Check.same("likeness to " + sentence + " of " + java.util.Arrays.toString(words), x.likeness(sentence), want);
    }

    private static void promises5And6Best() {
        TermGate x = new TermGate();
        for (int wrong : OUT_OF_CLIENTS) {
            Check.throwsArgument("best(" + wrong + "), no draft", () -> x.best(wrong));
            Check.throwsArgument("bestByAll(" + wrong + "), no draft", () -> x.bestByAll(wrong));
        }
        Check.throwsState("best, no draft", () -> x.best(0));
        Check.throwsState("bestByAll, no draft", () -> x.bestByAll(3));
        House.draft(x, 1);
        checkBest(x, "nothing sold", 0, NONE);
        House.sell(x, 0, false, 1, 2, 3, 4);
        House.sell(x, 1, false, 1, 2, 3, 5);
        House.sell(x, 1, false, 1, 2, 3, 6);
        House.sell(x, 2, false, 1, 2, 3, 7);
        House.draft(x, 1, 2, 3, 9);
        checkBest(x, "the client's own, though of the least number", 0, 0);
        checkBest(x, "of two own the greater number", 1, 2);
        checkBest(x, "own, and the greatest", 2, 3);
        checkBest(x, "none of the client's own: the greatest number", 3, 3);
        House.draft(x, 1, 2, 3, 5);
        checkBest(x, "the likeness goes ahead of the client", 0, 1);
        checkBest(x, "the likeness goes ahead of the number", 2, 1);
        House.sell(x, 3, false, 0, 49);
        House.draft(x, 49, 0);
        checkBest(x, "two words changed about", 3, NONE);
        House.draft(x, 49);
        checkBest(x, "the last word of all", 0, 4);
        House.draft(x, 0);
        checkBest(x, "the first word of all", 0, 4);
    }

    private static void promises5And6LeastAndDue() {
        TermGate x = new TermGate();
        House.sell(x, 0, false, 1, 2);
        House.sell(x, 1, false, 1, 2, 3);
        House.draft(x, 1);
        checkBest(x, "50 is just enough", 1, 0);
        x.setPrices(51, 10, 6);
        checkBest(x, "50 is too little for 51", 1, NONE);
        x.setPrices(33, 10, 6);
        House.draft(x, 9, 9, 3);
        checkBest(x, "33 is just enough", 0, 1);
        x.setPrices(34, 10, 6);
        checkBest(x, "33 is too little for 34", 0, NONE);
        x.setPrices(1, 10, 6);
        House.draft(x, 9, 9, 9);
        checkBest(x, "0 is never enough", 0, NONE);
        x.setPrices(100, 10, 6);
        House.draft(x, 1, 2);
        checkBest(x, "100 is enough for 100", 2, 0);
        x.setPrices(50, 10, 6);
        House.rule(x, 0, 2, 7);
        checkBest(x, "a due sentence is no match", 0, 1);
        checkBest(x, "a due sentence is none for others", 3, 1);
        House.rule(x, 1, 2, 7);
        checkBest(x, "all are due", 0, NONE);
        x.mend(0);
        checkBest(x, "mended, it is a match again", 3, 0);
        House.rule(x, 1, 2, 52);
        House.draft(x, 1, 2, 3);
        checkBest(x, "due no more, it is a match again", 3, 1);
    }

    private static void promise7Cost() {
        TermGate x = new TermGate();
        for (int wrong : OUT_OF_CLIENTS) {
            Check.throwsArgument("cost(" + wrong + "), no draft", () -> x.cost(wrong, true));
        }
        Check.throwsState("cost, no draft", () -> x.cost(3, false));
        House.draft(x, 1, 2, 3);
        Check.same("cost", x.cost(0, false), 30);
        Check.same("cost of a rush order", x.cost(0, true), 45);
        x.setPrices(50, 5, 6);
        House.draft(x, 1);
        Check.same("cost of one word", x.cost(0, false), 5);
        Check.same("the half of 5 is rounded down", x.cost(0, true), 7);
        x.setPrices(50, 100, 6);
        House.draft(x, 1, 2, 3, 4, 5, 6, 7, 8);
        Check.same("the dearest cost", x.cost(0, false), 800);
        Check.same("the dearest rush cost", x.cost(0, true), 1200);
        x.setPrices(50, 0, 6);
        Check.same("cost at no price", x.cost(0, true), 0);
        Check.same("cost orders nothing", x.waiting(true) + x.waiting(false), 0);
    }

    private static void promise7Shares() {
        TermGate x = new TermGate();
        House.sell(x, 0, false, 1, 2, 3, 4, 5, 6, 7, 8);
        x.setPrices(1, 100, 6);
        checkCost(x, 160, 240, 1, 2, 3, 4, 5, 6, 7, 8);
        checkCost(x, 400, 600, 1, 2, 3, 4, 5, 6, 7, 9);
        checkCost(x, 560, 840, 1, 2, 3, 4, 5, 6, 9, 9);
        checkCost(x, 720, 1080, 1, 2, 3, 4, 5, 9, 9, 9);
        checkCost(x, 720, 1080, 9, 9, 9, 9, 9, 9, 9, 8);
        checkCost(x, 800, 1200, 9, 9, 9, 9, 9, 9, 9, 9);
        TermGate seven = new TermGate();
        House.sell(seven, 0, false, 1, 2, 3, 4, 5, 6, 7);
        checkCost(seven, 35, 52, 1, 2, 3, 4, 5, 6, 9);
        checkCost(seven, 49, 73, 1, 2, 3, 4, 5, 9, 9);
        TermGate six = new TermGate();
        House.sell(six, 0, false, 1, 2, 3, 4, 5, 6);
        checkCost(six, 42, 63, 1, 2, 3, 4, 5, 9);
        checkCost(six, 54, 81, 1, 2, 3, 4, 9, 9);
        six.setPrices(50, 7, 6);
        checkCost(six, 29, 43, 1, 2, 3, 4, 5, 9);
        checkCost(six, 8, 12, 1, 2, 3, 4, 5, 6);
        six.setPrices(67, 7, 6);
        checkCost(six, 42, 63, 1, 2, 3, 4, 9, 9);
        House.rule(six, 0, 1, 9);
        checkCost(six, 42, 63, 1, 2, 3, 4, 5, 6);
    }

    private static void checkCost(TermGate x, int plain, int rush, int... words) {
        House.draft(x, words);
        String what = " of " + java.util.Arrays.toString(words);
        Check.same("cost" + what, x.cost(1, false), plain);
        Check.same("rush cost" + what, x.cost(1, true), rush);
    }

    private static void promise8Order() {
        TermGate x = new TermGate();
        for (int wrong : OUT_OF_CLIENTS) {
            Check.throwsArgument("order(" + wrong + "), no draft", () -> x.order(wrong, false));
        }
        Check.throwsState("order, no draft", () -> x.order(0, false));
        House.draft(x, 8, 9);
        Check.same("order 0", x.order(3, false), 0);
        Check.same("order 1 of the draft that stays", x.order(0, true), 1);
        House.draft(x, 7);
        Check.same("take", x.take(0), 1);
        Check.throwsPlace("its words stay as they were", () -> x.became(0, 2));
        Check.same("it has the words of the draft of then", x.became(0, 1), NONE);
        for (int number = 2; number < 60; number++) {
            Check.same("order " + number, x.order(number % 4, number % 2 == 0), number);
        }
        Check.throwsState("order 60", () -> x.order(0, false));
        Check.throwsState("rush order 60", () -> x.order(0, true));
        Check.throwsArgument("order 60 for no client", () -> x.order(4, true));
        Check.same("waiting rush", x.waiting(true), 29);
        Check.same("waiting", x.waiting(false), 30);
        Check.throwsPlace("orderAt(60)", () -> x.orderAt(60));
    }

    private static void promise9Take() {
        TermGate x = new TermGate();
        for (int wrong : OUT_OF_CLIENTS) {
            Check.throwsArgument("take(" + wrong + ")", () -> x.take(wrong));
        }
        Check.same("nothing to take", x.take(3), NONE);
        House.draft(x, 1);
        boolean[] rushes = {false, true, false, true};
        for (boolean isRush : rushes) {
            x.order(0, isRush);
        }
        Check.same("the first rush order", x.take(2), 1);
        Check.throwsState("a translator who has one", () -> x.take(2));
        Check.same("the other rush order", x.take(0), 3);
        Check.same("the first of the other desk", x.take(1), 0);
        Check.same("the last", x.take(3), 2);
        Check.throwsState("a translator who has one, and none waits", () -> x.take(3));
        x.translate(3, 0, 5);
        x.deliver(3);
        Check.same("no more to take", x.take(3), NONE);
        House.draft(x, 1);
        x.order(0, false);
        House.sell(x, 1, true, 1);
        Check.same("take behind a sale", x.take(3), 4);
        Check.same("its match is the best one of when it is taken", x.match(3), 0);
    }

    /** Pairs, with a tie between each two of the three ways on, and lent from the match as it is by then. */
    private static void promise9Pairs() {
        checkLent("both last ones the same", words(1, 2, 3), words(1, 2, 3), 51, 52, 53);
        checkLent("one word put in", words(1, 3), words(1, 9, 3), 51, NONE, 53);
        checkLent("one word taken away", words(1, 2, 3), words(1, 3), 51, 53);
        checkLent("one word changed", words(1, 2, 3), words(1, 9, 3), 51, NONE, 53);
        checkLent("the row's last word goes", words(9, 1, 2), words(9, 2, 3), 59, 52, NONE);
        checkLent("the match's last word goes", words(9, 2, 3), words(9, 1, 2), 59, NONE, 52);
        checkLent("the row's goes ahead of the match's", words(9, 2, 1), words(9, 1, 2), 59, 51, NONE);
        checkLent("nothing paired in the middle", words(8, 5, 6, 9), words(8, 1, 2, 9), 58, NONE, NONE, 59);
        checkLent("same words more often", words(7, 7), words(7, 7, 7), NONE, 57, 57);
        checkLent("same words less often", words(7, 7, 7), words(7, 7), 57, 57);
        checkLent("both last words go", words(7, 8), words(7, 7), 57, NONE);
        checkLent("the match's goes ahead of both", words(5, 7, 8), words(7, 7), NONE, 57);
        checkLent("the row is the longer", words(6, 5), words(5, 6, 7, 6), NONE, 56, NONE, NONE);
        checkLent("no match", words(1, 2), words(3, 4), NONE, NONE);
        TermGate x = new TermGate();
        House.sell(x, 0, false, 1, 2);
        House.rule(x, 0, 2, 77);
        x.mend(0);
        House.draft(x, 1, 2);
        x.order(3, true);
        x.take(0);
        checkBecame(x, "of a mended match", 0, 51, 77);
        House.rule(x, 0, 2, 78);
        x.mend(0);
        checkBecame(x, "of a match that is mended later", 0, 51, 77);
        Check.same("its match is due in between, and stays", x.match(0), 0);
    }

    private static void checkLent(String what, int[] sold, int[] row, int... want) {
        TermGate x = new TermGate();
        x.setPrices(1, 10, 6);
        House.sell(x, 0, false, sold);
        House.draft(x, row);
        x.order(1, false);
        x.take(2);
        checkBecame(x, what, 2, want);
    }

    private static void promise9FixesPrices() {
        TermGate x = new TermGate();
        House.draft(x, 1, 2);
        x.order(0, true);
        x.setPrices(50, 20, 9);
        x.take(0);
        x.setPrices(50, 1, 1);
        x.translate(0, 0, 1);
        x.translate(0, 1, 1);
        x.deliver(0);
        Check.same("paid by the price of when it was taken", x.paid(0), 60);
        Check.same("earned by the rate of when it was taken", x.earned(0), 18);
        House.draft(x, 1, 2);
        x.setPrices(50, 10, 10);
        x.order(1, false);
        x.order(2, false);
        x.take(1);
        x.take(2);
        Check.same("matched", x.match(1), 0);
        House.rule(x, 0, 1, 9);
        x.deliver(1);
        Check.same("paid by the share of when it was taken", x.paid(1), 4);
        Check.same("earned by the share of when it was taken", x.earned(1), 4);
        x.giveBack(2);
        x.setPrices(50, 50, 50);
        House.rule(x, 1, 1, 9);
        Check.same("taken again", x.take(3), 2);
        Check.same("taken again, without a match", x.match(3), NONE);
        x.translate(3, 0, 1);
        x.translate(3, 1, 1);
        x.deliver(3);
        Check.same("paid by the price of when it was taken again", x.paid(2), 100);
        Check.same("earned by the rate of when it was taken again", x.earned(3), 100);
        Check.same("who gave back earns nothing", x.earned(2), 0);
    }

    private static void promise10GiveBack() {
        TermGate x = new TermGate();
        for (int wrong : OUT_OF_CLIENTS) {
            Check.throwsArgument("giveBack(" + wrong + ")", () -> x.giveBack(wrong));
        }
        Check.throwsState("nothing to give back", () -> x.giveBack(0));
        House.draft(x, 1, 2);
        for (int number = 0; number < 6; number++) {
            x.order(0, number >= 3);
        }
        x.take(0);
        x.take(1);
        Check.same("giveBack", x.giveBack(0), 3);
        Check.same("it waits", x.orderAt(3), -1);
        Check.throwsState("given back already", () -> x.giveBack(0));
        Check.same("giveBack ahead of that", x.giveBack(1), 4);
        Check.same("the rush desk", x.waiting(true), 3);
        Check.same("given back last, taken first", x.take(2), 4);
        Check.same("given back first, taken next", x.take(1), 3);
        Check.same("the rush order behind them", x.take(0), 5);
        Check.same("a plain order", x.take(3), 0);
        x.translate(3, 0, 9);
        Check.same("a plain order given back", x.giveBack(3), 0);
        Check.same("it is at its own desk", x.waiting(false), 3);
        Check.same("not at the rush desk", x.waiting(true), 0);
        Check.same("taken again", x.take(3), 0);
        checkBecame(x, "given back, and lost", 3, NONE, NONE);
        checkGivenBackMatch();
    }

    private static void checkGivenBackMatch() {
        TermGate x = new TermGate();
        House.sell(x, 0, false, 1, 2);
        House.draft(x, 1, 2);
        x.order(0, false);
        x.take(0);
        x.translate(0, 0, 9);
        x.giveBack(0);
        x.take(1);
        Check.same("matched anew", x.match(1), 0);
        checkBecame(x, "matched anew", 1, 51, 52);
        x.giveBack(1);
        House.rule(x, 0, 1, 9);
        x.take(1);
        Check.same("the match is lost", x.match(1), NONE);
        checkBecame(x, "without a match", 1, NONE, NONE);
    }

    private static void promise11Translate() {
        TermGate x = new TermGate();
        for (int wrong : OUT_OF_CLIENTS) {
            Check.throwsArgument("translate(" + wrong + ", 0, 0)", () -> x.translate(wrong, 0, 0));
        }
        Check.throwsArgument("translate to -1, with no order", () -> x.translate(0, 0, -1));
        Check.throwsArgument("translate to 100, with no order", () -> x.translate(0, 0, 100));
        Check.throwsState("translate, with no order and no place", () -> x.translate(0, -1, 0));
        House.draft(x, 1, 2, 1);
        x.order(0, false);
        x.take(0);
        Check.throwsArgument("translate to -1, and no place", () -> x.translate(0, 3, -1));
        Check.throwsArgument("translate to 100", () -> x.translate(0, 0, 100));
        Check.throwsPlace("translate at 3", () -> x.translate(0, 3, 0));
        Check.throwsPlace("translate at -1", () -> x.translate(0, -1, 0));
        Check.throwsPlace("translate at 8", () -> x.translate(0, 8, 0));
        Check.throwsPlace("translate at the least number", () -> x.translate(0, Integer.MIN_VALUE, 0));
        Check.throwsPlace("translate at the greatest number", () -> x.translate(0, Integer.MAX_VALUE, 0));
        checkBecame(x, "nothing, behind all that", 0, NONE, NONE, NONE);
        Check.same("translate to 0", x.translate(0, 2, 0), 2);
        Check.same("translate again, to 99", x.translate(0, 2, 99), 2);
        Check.same("translate the first", x.translate(0, 0, 7), 1);
        checkBecame(x, "so far", 0, 7, NONE, 99);
        Check.same("translate the rest", x.translate(0, 1, 8), 0);
        Check.same("translate one again", x.translate(0, 1, 9), 0);
        checkBecame(x, "all", 0, 7, 9, 99);
    }

    private static void promise12Deliver() {
        TermGate x = new TermGate();
        for (int wrong : OUT_OF_CLIENTS) {
            Check.throwsArgument("deliver(" + wrong + ")", () -> x.deliver(wrong));
        }
        Check.throwsState("nothing to deliver", () -> x.deliver(0));
        House.rule(x, 0, 2, 20);
        House.rule(x, 1, 1, 10);
        House.draft(x, 1, 2);
        x.order(0, false);
        x.order(0, true);
        x.take(0);
        x.take(1);
        x.translate(0, 1, 21);
        x.translate(1, 1, 21);
        Check.throwsState("a rush order with a word that is nothing", () -> x.deliver(0));
        Check.throwsState("a word that is nothing", () -> x.deliver(1));
        x.translate(0, 0, 0);
        x.translate(1, 0, 0);
        Check.throwsState("a ruled word that is not its ruling", () -> x.deliver(1));
        Check.same("nothing is sold or paid so far", x.sold() + x.purse(), 0);
        Check.same("a rush order skips the check", x.deliver(0), 0);
        Check.same("paid for the rush order", x.paid(0), 30);
        Check.same("earned for the rush order, at the plain rate", x.earned(0), 12);
        Check.throwsState("delivered already", () -> x.deliver(0));
        checkDue(x, "with a rush order against a ruling", 0);
        x.translate(1, 1, 20);
        Check.same("as ruled", x.deliver(1), 1);
        Check.same("paid for both", x.paid(0), 50);
        checkDue(x, "with an order as ruled", 0);
        Check.same("it is the client's", x.clientOf(1), 0);
        Check.same("its word", x.wordOf(1, 1), 2);
        Check.same("what it became", x.becameOf(1, 1), 20);
        Check.same("the translator is free", x.take(1), NONE);
    }

    private static void promise12Limit() {
        TermGate x = new TermGate();
        House.draft(x, 1);
        for (int number = 0; number < 42; number++) {
            x.order(0, false);
        }
        for (int number = 0; number < 40; number++) {
            x.take(0);
            x.translate(0, 0, 5);
            Check.same("sold no. " + number, x.deliver(0), number);
        }
        checkBest(x, "of 40", 0, 39);
        x.take(0);
        Check.same("the 41st is matched", x.match(0), 39);
        Check.same("why of the 41st", x.why(0), 0);
        Check.same("wherefore of the 41st", x.wherefore(0), NONE);
        Check.throwsState("the 41st", () -> x.deliver(0));
        Check.same("sold stays", x.sold(), 40);
        Check.same("the 41st is still with the translator", x.orderAt(40), 0);
        Check.throwsPlace("there is no 41st sentence", () -> x.clientOf(40));
        Check.same("paid for 40", x.paid(0), 10 + 39 * 2);
        House.rule(x, 0, 1, 6);
        Check.same("all 40 are due", x.due(), 40);
        Check.same("the last of 40", x.dueAt(39), 39);
        Check.same("mend the last of 40", x.mend(39), 1);
        Check.same("39 are due", x.due(), 39);
        House.draft(x, 1);
        checkBest(x, "the one that was mended", 0, 39);
    }

    private static void promises13And14Why() {
        TermGate x = new TermGate();
        for (int wrong : OUT_OF_CLIENTS) {
            Check.throwsArgument("why(" + wrong + ")", () -> x.why(wrong));
            Check.throwsArgument("wherefore(" + wrong + ")", () -> x.wherefore(wrong));
        }
        Check.throwsState("why of none", () -> x.why(1));
        Check.throwsState("wherefore of none", () -> x.wherefore(1));
        House.rule(x, 0, 1, 10);
        House.rule(x, 0, 3, 30);
        House.draft(x, 1, 2, 3);
        x.order(0, false);
        x.order(0, true);
        x.take(0);
        x.take(1);
        checkWhy(x, "nothing yet", 1, 1, 0);
        x.translate(1, 0, 11);
        checkWhy(x, "a word that is nothing goes ahead of one that is wrong", 1, 1, 1);
        x.translate(1, 2, 31);
        checkWhy(x, "the one in the middle", 1, 1, 1);
        x.translate(1, 1, 99);
        checkWhy(x, "the first that is wrong", 1, 2, 0);
        x.translate(1, 0, 10);
        checkWhy(x, "the next that is wrong", 1, 2, 2);
        x.say(2, 0, 3, 31);
        x.say(0, 0, 3, 31);
        checkWhy(x, "ruled as it is", 1, 0, NONE);
        x.say(0, 0, 1, 9);
        checkWhy(x, "ruled no more", 1, 0, NONE);
        House.rule(x, 0, 1, 10);
        House.rule(x, 1, 2, 20);
        checkWhy(x, "ruled for another client", 1, 0, NONE);
        x.translate(0, 0, 11);
        x.translate(0, 2, 32);
        checkWhy(x, "a rush order with a word that is nothing", 0, 1, 1);
        x.translate(0, 1, 21);
        checkWhy(x, "a rush order against all rulings", 0, 0, NONE);
        x.translate(1, 0, 12);
        x.say(2, 0, 1, 10);
        x.say(2, 0, 1, -1);
        checkWhy(x, "ruled still", 1, 2, 0);
    }

    private static void checkWhy(TermGate x, String what, int translator, int why, int wherefore) {
        Check.same("why: " + what, x.why(translator), why);
        Check.same("wherefore: " + what, x.wherefore(translator), wherefore);
        if (why != 0) {
            Check.throwsState("deliver: " + what, () -> x.deliver(translator));
        }
    }

    private static void promise15Became() {
        TermGate x = new TermGate();
        for (int wrong : OUT_OF_CLIENTS) {
            Check.throwsArgument("became(" + wrong + ", 0)", () -> x.became(wrong, 0));
        }
        Check.throwsState("became of none", () -> x.became(0, 0));
        Check.throwsState("became of none, and no place", () -> x.became(0, -1));
        House.draft(x, 1, 2);
        x.order(0, false);
        x.take(0);
        checkBecame(x, "nothing", 0, NONE, NONE);
        Check.throwsPlace("became at -1", () -> x.became(0, -1));
        Check.throwsPlace("became at the least number", () -> x.became(0, Integer.MIN_VALUE));
        Check.throwsPlace("became at the greatest number", () -> x.became(0, Integer.MAX_VALUE));
        x.translate(0, 1, 0);
        checkBecame(x, "the lowest", 0, NONE, 0);
        Check.throwsState("became of another one", () -> x.became(1, 0));
    }

    private static void promise16Match() {
        TermGate x = new TermGate();
        for (int wrong : OUT_OF_CLIENTS) {
            Check.throwsArgument("match(" + wrong + ")", () -> x.match(wrong));
        }
        Check.throwsState("match of none", () -> x.match(0));
        House.sell(x, 0, false, 1, 2);
        House.sell(x, 1, false, 1, 2);
        House.draft(x, 1, 2);
        x.order(0, false);
        x.order(2, false);
        House.draft(x, 3);
        x.order(0, false);
        x.take(0);
        x.take(1);
        x.take(2);
        Check.same("match of the client's own", x.match(0), 0);
        Check.same("match of the greatest number", x.match(1), 1);
        Check.same("no match", x.match(2), NONE);
        x.setPrices(100, 1, 1);
        House.rule(x, 0, 1, 99);
        Check.same("the match stays", x.match(0), 0);
    }

    private static void promise17Waiting() {
        TermGate x = new TermGate();
        House.draft(x, 1);
        x.order(0, true);
        Check.same("one at the rush desk", x.waiting(true), 1);
        Check.same("none at the other", x.waiting(false), 0);
        x.order(0, false);
        x.order(0, false);
        Check.same("two at the other", x.waiting(false), 2);
        x.take(0);
        Check.same("rush taken", x.waiting(true), 0);
        x.take(1);
        Check.same("one left at the other", x.waiting(false), 1);
        x.giveBack(1);
        x.giveBack(0);
        Check.same("given back", x.waiting(false), 2);
        Check.same("rush given back", x.waiting(true), 1);
    }

    private static void promise18OrderAt() {
        TermGate x = new TermGate();
        Check.throwsPlace("orderAt(0)", () -> x.orderAt(0));
        House.draft(x, 1);
        x.order(0, true);
        x.order(0, false);
        Check.same("it waits", x.orderAt(0), -1);
        x.take(3);
        x.take(0);
        Check.same("translator 3 has it", x.orderAt(0), 3);
        Check.same("translator 0 has it", x.orderAt(1), 0);
        x.translate(3, 0, 1);
        x.deliver(3);
        Check.same("it is sold", x.orderAt(0), -2);
        x.giveBack(0);
        Check.same("it waits again", x.orderAt(1), -1);
        Check.throwsPlace("orderAt(2)", () -> x.orderAt(2));
        Check.throwsPlace("orderAt(-1)", () -> x.orderAt(-1));
        Check.throwsPlace("orderAt(60)", () -> x.orderAt(60));
        Check.throwsPlace("orderAt of the least number", () -> x.orderAt(Integer.MIN_VALUE));
        Check.throwsPlace("orderAt of the greatest number", () -> x.orderAt(Integer.MAX_VALUE));
    }

    private static void promise19Say() {
        TermGate x = new TermGate();
        for (int wrong : new int[] {-1, 3, Integer.MIN_VALUE, Integer.MAX_VALUE}) {
            Check.throwsArgument("say by " + wrong, () -> x.say(wrong, 0, 0, 0));
        }
        for (int wrong : OUT_OF_CLIENTS) {
            Check.throwsArgument("say for " + wrong, () -> x.say(0, wrong, 0, 0));
        }
        for (int wrong : OUT_OF_WORDS) {
            Check.throwsArgument("say of " + wrong, () -> x.say(0, 0, wrong, 0));
        }
        for (int wrong : new int[] {-2, 100, Integer.MIN_VALUE, Integer.MAX_VALUE}) {
            Check.throwsArgument("say " + wrong, () -> x.say(0, 0, 0, wrong));
        }
        House.sell(x, 0, false, 0, 49);
        House.sell(x, 3, false, 0, 49);
        House.sell(x, 0, false, 49, 0);
        Check.same("one voice is none", x.say(2, 0, 49, 0), 0);
        Check.same("the same voice twice is one", x.say(2, 0, 49, 0), 0);
        Check.same("another voice for another client", x.say(1, 3, 49, 0), 0);
        Check.same("another voice for another word", x.say(1, 0, 0, 0), 0);
        Check.same("another voice for another thing", x.say(1, 0, 49, 99), 0);
        Check.same("two voices, as it is sold", x.say(0, 0, 49, 99), 0);
        Check.same("a direct change", x.say(0, 0, 49, 0), 2);
        Check.same("the third voice, again", x.say(1, 0, 49, 99), 2);
        Check.same("as it is sold, again", x.say(0, 0, 49, 99), 0);
        Check.same("two voices for the other client", x.say(0, 3, 49, 0), 1);
        Check.same("and for the first", x.say(0, 0, 49, 0), 3);
        Check.same("the third voice goes", x.say(1, 0, 49, -1), 3);
        Check.same("the second goes too", x.say(2, 0, 49, -1), 1);
        Check.same("the last goes too", x.say(0, 0, 49, -1), 1);
    }

    private static void promise20Ruling() {
        TermGate x = new TermGate();
        for (int wrong : OUT_OF_CLIENTS) {
            Check.throwsArgument("ruling for " + wrong, () -> x.ruling(wrong, 0));
        }
        for (int wrong : OUT_OF_WORDS) {
            Check.throwsArgument("ruling of " + wrong, () -> x.ruling(0, wrong));
        }
        int[][] pairs = {{0, 1}, {0, 2}, {1, 2}, {1, 0}, {2, 0}, {2, 1}};
        for (int client = 0; client < pairs.length; client++) {
            int word = 49 - client;
            int of = client % 4;
            x.say(pairs[client][0], of, word, client);
            Check.same("one voice", x.ruling(of, word), NONE);
            x.say(pairs[client][1], of, word, client);
            Check.same("two voices", x.ruling(of, word), client);
            Check.same("two voices are for one client", x.ruling((of + 1) % 4, word), NONE);
            Check.same("two voices are for one word", x.ruling(of, client), NONE);
            x.say(pairs[client][0], of, word, -1);
            Check.same("one voice left", x.ruling(of, word), NONE);
        }
        TermGate y = new TermGate();
        y.say(0, 3, 49, 99);
        y.say(1, 3, 49, 98);
        y.say(2, 3, 49, 97);
        Check.same("three voices apart", y.ruling(3, 49), NONE);
        y.say(1, 3, 49, 99);
        Check.same("the highest ruling", y.ruling(3, 49), 99);
        y.say(1, 3, 49, 97);
        Check.same("a direct change", y.ruling(3, 49), 97);
        y.say(0, 3, 49, 97);
        Check.same("three voices", y.ruling(3, 49), 97);
        y.say(2, 3, 49, -1);
        Check.same("two of three", y.ruling(3, 49), 97);
        y.say(0, 3, 49, -1);
        Check.same("two that say nothing rule nothing", y.ruling(3, 49), NONE);
    }

    private static void promises21To24Sold() {
        TermGate x = new TermGate();
        Check.throwsPlace("clientOf(0)", () -> x.clientOf(0));
        Check.throwsPlace("wordOf(0, 0)", () -> x.wordOf(0, 0));
        Check.throwsPlace("becameOf(0, 0)", () -> x.becameOf(0, 0));
        House.sell(x, 3, false, 0, 49);
        House.sell(x, 0, true, 7);
        Check.same("sold", x.sold(), 2);
        House.draft(x, 1);
        x.order(0, true);
        x.take(0);
        Check.same("sold, with an order that is not", x.sold(), 2);
        Check.same("clientOf(0)", x.clientOf(0), 3);
        Check.same("clientOf(1)", x.clientOf(1), 0);
        Check.same("wordOf(0, 0)", x.wordOf(0, 0), 0);
        Check.same("wordOf(0, 1)", x.wordOf(0, 1), 49);
        Check.same("wordOf(1, 0)", x.wordOf(1, 0), 7);
        Check.same("becameOf(0, 0)", x.becameOf(0, 0), 50);
        Check.same("becameOf(0, 1)", x.becameOf(0, 1), 99);
        Check.same("becameOf(1, 0)", x.becameOf(1, 0), 57);
        for (int wrong : new int[] {-1, 2, 40, Integer.MIN_VALUE, Integer.MAX_VALUE}) {
            Check.throwsPlace("clientOf(" + wrong + ")", () -> x.clientOf(wrong));
            Check.throwsPlace("wordOf(" + wrong + ", 0)", () -> x.wordOf(wrong, 0));
            Check.throwsPlace("becameOf(" + wrong + ", 0)", () -> x.becameOf(wrong, 0));
            Check.throwsPlace("wordOf(0, " + wrong + ")", () -> x.wordOf(0, wrong));
            Check.throwsPlace("becameOf(0, " + wrong + ")", () -> x.becameOf(0, wrong));
        }
        Check.throwsPlace("wordOf(1, 1)", () -> x.wordOf(1, 1));
        Check.throwsPlace("becameOf(1, 1)", () -> x.becameOf(1, 1));
    }

    private static void promise25IsDue() {
        TermGate x = new TermGate();
        Check.throwsPlace("isDue(0)", () -> x.isDue(0));
        House.sell(x, 0, false, 1, 2, 3);
        House.sell(x, 1, false, 1, 2, 3);
        checkIsDue(x, "unruled", false, false);
        House.rule(x, 0, 3, 53);
        checkIsDue(x, "ruled as it is", false, false);
        House.rule(x, 0, 3, 54);
        checkIsDue(x, "the last word", true, false);
        House.rule(x, 1, 1, 54);
        checkIsDue(x, "the first word of the other", true, true);
        House.rule(x, 0, 3, 53);
        checkIsDue(x, "ruled back", false, true);
        x.mend(1);
        checkIsDue(x, "mended", false, false);
        House.rule(x, 0, 9, 9);
        checkIsDue(x, "a word that it has not", false, false);
        for (int wrong : new int[] {-1, 2, 40, Integer.MIN_VALUE, Integer.MAX_VALUE}) {
            Check.throwsPlace("isDue(" + wrong + ")", () -> x.isDue(wrong));
        }
    }

    private static void checkIsDue(TermGate x, String when, boolean first, boolean second) {
        Check.same("isDue(0) " + when, x.isDue(0) ? 1 : 0, first ? 1 : 0);
        Check.same("isDue(1) " + when, x.isDue(1) ? 1 : 0, second ? 1 : 0);
        Check.same("due() " + when, x.due(), (first ? 1 : 0) + (second ? 1 : 0));
    }

    private static void promises26And27Due() {
        TermGate x = new TermGate();
        House.sell(x, 0, false, 1, 2);
        House.sell(x, 0, false, 1);
        House.sell(x, 0, false, 1, 2, 3);
        House.sell(x, 0, false, 3);
        for (int wrong : new int[] {-1, 0, 40, 60, Integer.MIN_VALUE, Integer.MAX_VALUE}) {
            Check.throwsPlace("dueAt(" + wrong + ")", () -> x.dueAt(wrong));
        }
        House.rule(x, 0, 3, 9);
        checkDue(x, "by one call, the lower first", 2, 3);
        House.rule(x, 0, 1, 9);
        checkDue(x, "later ones behind", 2, 3, 0, 1);
        x.say(2, 0, 1, 8);
        x.say(0, 0, 1, 8);
        checkDue(x, "ruled directly another way, they stay", 2, 3, 0, 1);
        x.say(1, 0, 3, -1);
        checkDue(x, "one leaves, one is due for another word", 2, 0, 1);
        House.rule(x, 0, 3, 9);
        checkDue(x, "due again, it is the last one", 2, 0, 1, 3);
        x.mend(0);
        checkDue(x, "mended, it leaves", 2, 1, 3);
        House.rule(x, 0, 2, 9);
        checkDue(x, "mended and due again, it is the last one", 2, 1, 3, 0);
        House.sell(x, 0, true, 1);
        checkDue(x, "delivered as due", 2, 1, 3, 0, 4);
        x.mend(2);
        checkDue(x, "the first is mended", 1, 3, 0, 4);
        x.mend(4);
        checkDue(x, "the last is mended", 1, 3, 0);
        Check.throwsPlace("dueAt(-1)", () -> x.dueAt(-1));
    }

    private static void promise28Mend() {
        TermGate x = new TermGate();
        Check.throwsPlace("mend(0)", () -> x.mend(0));
        House.sell(x, 0, false, 1, 2, 1, 3);
        Check.throwsState("mend one that is not due", () -> x.mend(0));
        for (int wrong : new int[] {-1, 1, 40, Integer.MIN_VALUE, Integer.MAX_VALUE}) {
            Check.throwsPlace("mend(" + wrong + ")", () -> x.mend(wrong));
        }
        House.rule(x, 0, 1, 10);
        House.rule(x, 0, 2, 52);
        Check.same("each place of the word is mended", x.mend(0), 2);
        int[] want = {10, 52, 10, 53};
        for (int place = 0; place < want.length; place++) {
            Check.same("mended at " + place, x.becameOf(0, place), want[place]);
        }
        Check.same("the words stay", x.wordOf(0, 0), 1);
        Check.throwsState("mended already", () -> x.mend(0));
        House.rule(x, 0, 3, 30);
        House.rule(x, 0, 1, 11);
        Check.same("mended again", x.mend(0), 3);
        Check.same("mended again at 3", x.becameOf(0, 3), 30);
        House.rule(x, 1, 3, 31);
        Check.throwsState("ruled for another client", () -> x.mend(0));
        Check.same("sold is as it was", x.sold(), 1);
    }

    private static void promise28Prices() {
        TermGate x = new TermGate();
        x.setPrices(100, 0, 0);
        House.rule(x, 0, 1, 10);
        x.say(2, 0, 3, 30);
        x.say(1, 0, 3, 30);
        House.sell(x, 0, true, 1, 2, 3, 1);
        House.rule(x, 0, 2, 20);
        Check.same("three back for an old ruling, one new", x.mend(0), 4);
        Check.same("paid for that", x.paid(0), -5 - 5 - 5 + 3);
        House.sell(x, 0, true, 1, 2);
        x.say(0, 0, 1, -1);
        House.rule(x, 0, 1, 10);
        Check.same("one changed and changed back", x.mend(1), 2);
        Check.same("paid for that too", x.paid(0), -12 + 3 - 5);
        House.sell(x, 0, true, 1, 2);
        x.say(2, 0, 1, 10);
        x.say(0, 0, 1, -1);
        x.say(0, 0, 1, 10);
        House.rule(x, 0, 2, 21);
        x.say(0, 1, 1, 9);
        x.say(2, 1, 1, 9);
        Check.same("one ruled all the time by other voices", x.mend(2), 2);
        Check.same("paid for that as well", x.paid(0), -14 - 5 + 3);
        Check.same("nobody else pays", x.paid(1) + x.paid(2) + x.paid(3), 0);
        Check.same("the purse", x.purse(), -16);
        House.sell(x, 0, true, 1);
        x.say(1, 0, 1, 11);
        x.say(0, 0, 1, 11);
        x.mend(3);
        x.say(1, 0, 1, 10);
        x.say(0, 0, 1, 10);
        x.mend(3);
        Check.same("the first ruling, later again", x.paid(0), -16 + 3 + 3);
        House.sell(x, 1, true, 1);
        x.mend(4);
        Check.same("another client gets back", x.paid(1), -5);
    }

    private static void promise29SetPrices() {
        TermGate x = new TermGate();
        int[][] wrongs = {{0, 0, 0}, {101, 0, 0}, {-1, 0, 0}, {1, -1, 0}, {1, 101, 0}, {1, 0, -1}, {1, 0, 101},
            {Integer.MIN_VALUE, 0, 0}, {Integer.MAX_VALUE, 0, 0}, {1, Integer.MIN_VALUE, 0},
            {1, 0, Integer.MAX_VALUE}, {1, Integer.MAX_VALUE, 0}, {1, 0, Integer.MIN_VALUE}};
        for (int[] wrong : wrongs) {
            Check.throwsArgument("setPrices " + java.util.Arrays.toString(wrong),
                () -> x.setPrices(wrong[0], wrong[1], wrong[2]));
        }
        House.draft(x, 1, 2);
        Check.same("the price is 10 as before", x.cost(0, false), 20);
        House.sell(x, 0, false, 1, 2);
        Check.same("the rate is 6 as before", x.earned(3), 12);
        House.draft(x, 1);
        Check.same("the least likeness is 50 as before", x.best(0), 0);
        x.setPrices(100, 100, 100);
        Check.same("the highest of all", x.cost(0, false), 100);
        House.sell(x, 0, false, 1);
        Check.same("the highest rate", x.earned(3), 112);
        x.setPrices(1, 0, 0);
        House.draft(x, 1, 5, 5, 5, 5, 5, 5, 5);
        Check.same("the lowest of all", x.best(0), 1);
        House.sell(x, 0, false, 9);
        Check.same("the lowest rate", x.earned(3), 112);
        Check.same("the lowest price", x.paid(0), 120);
    }

    private static void promises30To32Money() {
        TermGate x = new TermGate();
        for (int wrong : OUT_OF_CLIENTS) {
            Check.throwsArgument("paid(" + wrong + ")", () -> x.paid(wrong));
            Check.throwsArgument("earned(" + wrong + ")", () -> x.earned(wrong));
        }
        x.setPrices(50, 9, 7);
        for (int client = 0; client < 4; client++) {
            House.draft(x, client);
            x.order(client, client == 3);
        }
        int[] takers = {1, 0, 2, 3};
        for (int translator : takers) {
            Check.same("nothing is earned so far", x.take(translator) == NONE ? 1 : x.earned(translator), 0);
        }
        Check.same("nothing is paid as it is taken", x.paid(3), 0);
        for (int translator : takers) {
            x.translate(translator, 0, 1);
            x.deliver(translator);
        }
        Check.same("paid for a rush order", x.paid(3), 13);
        Check.same("paid(0)", x.paid(0), 9);
        Check.same("earned(1)", x.earned(1), 7);
        Check.same("purse", x.purse(), 13 + 27 - 28);
        House.sell(x, 3, false, 3);
        Check.same("a share of 20 is rounded down", x.paid(3), 14);
        Check.same("a share of 20 of the rate too", x.earned(3), 8);
        Check.same("purse behind that", x.purse(), 12);
        House.rule(x, 0, 0, 9);
        x.mend(1);
        Check.same("purse with a mending", x.purse(), 15);
    }
}
