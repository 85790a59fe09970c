/** Promises 8 to 18, sentence by sentence: the last that is allowed, the first that is not, what is empty and full. */
public final class OrderBoundariesTest {
    private static final int NONE = House.NONE;

    public static void main(String[] args) {
        promise8Order();
        promise9Take();
        promise10GiveBack();
        promise11Translate();
        promise11Refuses();
        promise12Deliver();
        promise12Refuses();
        promise13Why();
        promise14Wherefore();
        promise15Became();
        promise16Match();
        promise17Waiting();
        promise18OrderAt();
        Doc.allSaid(8, 18);
        Check.end();
    }

    /** A new object with so many orders of one word, all for client 0, none of them taken. */
    private static TermGate having(int orders, boolean isRush) {
        TermGate x = House.drafted(1);
        for (int number = 0; number < orders; number++) {
            x.order(0, isRush);
        }
        return x;
    }

    private static void promise8Order() {
        Doc.promise(8);
        Doc.says("Orders the draft, which stays.");
        TermGate x = House.drafted(0, 49, 0, 49, 0, 49, 0, 49);
        x.order(0, false);
        Check.same("a draft of eight stays", x.clear(), 8);
        x.word(7);
        x.order(0, false);
        Check.same("a draft of one stays", x.clear(), 1);
        x.take(0);
        Check.same("the last of eight words", x.became(0, 7), NONE);
        Check.throwsPlace("no ninth word", () -> x.became(0, 8));
        x.take(1);
        Check.throwsPlace("no second word", () -> x.became(1, 1));

        Doc.says("- `client`: 0 to 3");
        TermGate y = House.drafted(1);
        for (int client = 0; client < 4; client++) {
            y.order(client, client % 2 == 0);
            y.take(0);
            y.translate(0, 0, 5);
            Check.same("it is this client's", y.clientOf(y.deliver(0)), client);
        }

        Doc.says("Returns the number of the order.");
        TermGate full = House.drafted(1);
        for (int number = 0; number < 60; number++) {
            Check.same("order no. " + number, full.order(3, number % 3 == 0), number);
        }

        Doc.says("Throws `IllegalArgumentException` if client is out of range");
        Check.refusesArguments(House.outside(0, 3), wrong -> y.order(wrong, false));
        Check.refusesArguments(House.outside(0, 3), wrong -> y.order(wrong, true));
        Check.refusesArguments(House.outside(0, 3), wrong -> new TermGate().order(wrong, false));
        Check.refusesArguments(House.outside(0, 3), wrong -> full.order(wrong, true));
        Check.same("nothing is ordered", y.waiting(false) + y.waiting(true), 0);

        Doc.says("Throws `IllegalStateException` if the draft is empty, or there were 60 orders");
        TermGate z = new TermGate();
        Check.throwsState("an empty draft", () -> z.order(0, false));
        Check.throwsState("an empty draft, rush", () -> z.order(3, true));
        Check.throwsState("the order 60", () -> full.order(0, false));
        Check.throwsState("the rush order 60", () -> full.order(3, true));
        Check.same("nothing is ordered", full.waiting(false) + full.waiting(true), 60);
        full.take(0);
        Check.throwsState("the order 60, with one taken", () -> full.order(0, false));
        full.translate(0, 0, 1);
        full.deliver(0);
        Check.throwsState("the order 60, with one sold", () -> full.order(0, false));
        full.clear();
        Check.throwsState("the order 60, with an empty draft", () -> full.order(0, false));
    }

    private static void promise9Take() {
        Doc.promise(9);
        Doc.says("Lets a translator take an order.");
        TermGate full = having(60, false);
        Check.same("the first", full.take(0), 0);
        Check.same("it is taken", full.orderAt(0), 0);
        Check.same("it waits no more", full.waiting(false), 59);

        Doc.says("- `translator`: 0 to 3");
        TermGate x = having(4, false);
        for (int translator = 3; translator >= 0; translator--) {
            int order = x.take(translator);
            Check.same("this translator has it", x.orderAt(order), translator);
        }

        Doc.says("Returns the order, -1 if none waits.");
        TermGate y = new TermGate();
        Check.same("there was none ever", y.take(0), NONE);
        Check.same("the same translator, still without", y.take(0), NONE);
        y.word(1);
        y.order(0, false);
        Check.same("the first", y.take(0), 0);
        Check.same("all are with others", y.take(3), NONE);
        y.translate(0, 0, 5);
        y.deliver(0);
        Check.same("all are sold", y.take(0), NONE);
        y.order(0, true);
        Check.same("a rush order is there", y.take(3), 1);
        y.giveBack(3);
        Check.same("given back", y.take(0), 1);
        TermGate many = having(60, true);
        for (int number = 0; number < 40; number++) {
            Check.same("rush order no. " + number, many.take(3), number);
            many.translate(3, 0, 5);
            many.deliver(3);
        }
        for (int translator = 0; translator < 4; translator++) {
            Check.same("those that can't be sold", many.take(translator), 40 + translator);
        }
        Check.same("the rest waits", many.waiting(true), 16);

        Doc.says("Throws `IllegalArgumentException` if translator is out of range");
        Check.refusesArguments(House.outside(0, 3), wrong -> x.take(wrong));
        Check.refusesArguments(House.outside(0, 3), wrong -> new TermGate().take(wrong));
        Check.refusesArguments(House.outside(0, 3), wrong -> full.take(wrong));
        Check.same("nothing is taken", full.waiting(false), 59);

        Doc.says("Throws `IllegalStateException` if the translator has one");
        for (int translator = 0; translator < 4; translator++) {
            int who = translator;
            Check.throwsState("and none waits", () -> x.take(who));
        }
        Check.throwsState("and others wait", () -> full.take(0));
        Check.same("another translator", full.take(1), 1);
        full.giveBack(0);
        Check.same("one who gave it back", full.take(0), 0);
    }

    private static void promise10GiveBack() {
        Doc.promise(10);
        Doc.says("Lets a translator give the order back.");
        TermGate full = having(60, true);
        full.take(0);
        full.take(1);
        full.giveBack(0);
        Check.same("59 wait", full.waiting(true), 59);
        full.giveBack(1);
        Check.same("all 60 wait", full.waiting(true), 60);
        Check.same("it waits", full.orderAt(1), -1);
        Check.same("given back last, it is the first", full.take(3), 1);
        Check.same("given back first, it is the next", full.take(2), 0);
        Check.same("those that were never taken are behind", full.take(1), 2);

        Doc.says("- `translator`: 0 to 3");
        TermGate x = having(4, false);
        for (int translator = 0; translator < 4; translator++) {
            x.take(translator);
        }
        for (int translator = 3; translator >= 0; translator--) {
            Check.same("this translator's", x.giveBack(translator), translator);
        }

        Doc.says("Returns the order.");
        TermGate y = having(1, false);
        y.take(2);
        Check.same("the only one", y.giveBack(2), 0);
        TermGate last = having(59, false);
        last.order(0, true);
        last.take(2);
        Check.same("the last of 60", last.giveBack(2), 59);

        Doc.says("Throws `IllegalArgumentException` if translator is out of range");
        Check.refusesArguments(House.outside(0, 3), wrong -> y.giveBack(wrong));
        Check.refusesArguments(House.outside(0, 3), wrong -> new TermGate().giveBack(wrong));

        Doc.says("Throws `IllegalStateException` if the translator has none");
        refusesEmptyHands((z, who) -> z.giveBack(who));
    }

    /** A call for a translator. */
    private interface Call {
        void on(TermGate x, int translator);
    }

    /** Translators have none at first, while others have, and behind a delivery, a return, or a take of nothing. */
    private static void refusesEmptyHands(Call call) {
        TermGate x = House.drafted(1);
        for (int translator = 0; translator < 4; translator++) {
            int who = translator;
            Check.throwsState("at first", () -> call.on(x, who));
        }
        x.take(0);
        Check.throwsState("behind a take of nothing", () -> call.on(x, 0));
        x.order(0, false);
        Check.throwsState("while one waits", () -> call.on(x, 0));
        x.take(0);
        for (int translator = 1; translator < 4; translator++) {
            int who = translator;
            Check.throwsState("while another has one", () -> call.on(x, who));
        }
        x.giveBack(0);
        Check.throwsState("given back", () -> call.on(x, 0));
        x.take(3);
        x.translate(3, 0, 5);
        x.deliver(3);
        Check.throwsState("delivered", () -> call.on(x, 3));
    }

    private static void promise11Translate() {
        Doc.promise(11);
        Doc.says("Lets a word of the order that a translator has become something,"
            + " in place of what it may have become.");
        TermGate x = House.holding(0, 0, false, 1, 1);
        x.translate(0, 0, 5);
        Check.same("it became something", x.became(0, 0), 5);
        Check.same("the same word at another place did not", x.became(0, 1), NONE);
        x.translate(0, 0, 0);
        Check.same("it became something else", x.became(0, 0), 0);

        Doc.says("- `translator`: 0 to 3");
        TermGate y = having(4, false);
        for (int translator = 0; translator < 4; translator++) {
            y.take(translator);
        }
        for (int translator = 0; translator < 4; translator++) {
            Check.same("this translator's", y.translate(translator, 0, translator), 0);
        }
        for (int translator = 0; translator < 4; translator++) {
            Check.same("this translator's order alone", y.became(translator, 0), translator);
        }

        Doc.says("- `place`: from 0");
        TermGate eight = House.holding(3, 0, false, 0, 0, 0, 0, 0, 0, 0, 0);
        eight.translate(3, 0, 5);
        Check.same("the first", eight.became(3, 0), 5);
        eight.translate(3, 7, 6);
        Check.same("the last", eight.became(3, 7), 6);

        Doc.says("- `becomes`: 0 to 99");
        for (int becomes = 0; becomes < 100; becomes++) {
            x.translate(0, 1, becomes);
            Check.same("it is what was said", x.became(0, 1), becomes);
        }

        Doc.says("Returns how many words of the order have become nothing so far.");
        TermGate z = House.holding(1, 0, false, 0, 1, 2, 3, 4, 5, 6, 7);
        for (int place = 7; place >= 0; place--) {
            Check.same("one less", z.translate(1, place, 0), place);
            Check.same("the same again", z.translate(1, place, 99), place);
        }
        TermGate lent = new TermGate();
        House.sell(lent, 0, false, 1, 2);
        House.draft(lent, 1, 2, 3);
        lent.order(0, false);
        lent.take(0);
        Check.same("with two words of the match", lent.translate(0, 2, 5), 0);
    }

    private static void promise11Refuses() {
        Doc.says("Throws `IllegalArgumentException` if translator or becomes is out of range");
        TermGate x = House.holding(0, 0, false, 1);
        TermGate none = new TermGate();
        Check.refusesArguments(House.outside(0, 3), wrong -> x.translate(wrong, 0, 0));
        Check.refusesArguments(House.outside(0, 3), wrong -> x.translate(wrong, 1, 100));
        Check.refusesArguments(House.outside(0, 3), wrong -> none.translate(wrong, 0, 0));
        Check.refusesArguments(House.outside(0, 99), wrong -> x.translate(0, 0, wrong));
        Check.refusesArguments(House.outside(0, 99), wrong -> x.translate(0, 1, wrong));
        Check.refusesArguments(House.outside(0, 99), wrong -> none.translate(0, 0, wrong));
        Check.same("it became nothing", x.became(0, 0), NONE);

        Doc.says("Throws `IllegalStateException` if the translator has none");
        refusesEmptyHands((y, who) -> y.translate(who, 0, 0));
        refusesEmptyHands((y, who) -> y.translate(who, -1, 0));
        refusesEmptyHands((y, who) -> y.translate(who, 8, 99));

        Doc.says("Throws `IndexOutOfBoundsException` if the order has no such place");
        Check.refusesPlaces(House.outside(0, 0), wrong -> x.translate(0, wrong, 0));
        TermGate eight = House.holding(0, 0, false, 0, 0, 0, 0, 0, 0, 0, 0);
        Check.refusesPlaces(House.outside(0, 7), wrong -> eight.translate(0, wrong, 99));
        Check.same("nothing has become something", eight.translate(0, 0, 0), 7);
    }

    private static void promise12Deliver() {
        Doc.promise(12);
        Doc.says("Delivers the order that a translator has.");
        TermGate x = House.holding(2, 1, false, 0, 0, 0, 0, 0, 0, 0, 0);
        for (int place = 0; place < 8; place++) {
            x.translate(2, place, place);
        }
        x.deliver(2);
        Check.same("it is sold", x.orderAt(0), -2);
        Check.same("the last of its words", x.becameOf(0, 7), 7);

        Doc.says("- `translator`: 0 to 3");
        TermGate y = having(4, false);
        for (int translator = 0; translator < 4; translator++) {
            y.take(translator);
            y.translate(translator, 0, translator);
        }
        for (int translator = 3; translator >= 0; translator--) {
            Check.same("what this translator had", y.becameOf(y.deliver(translator), 0), translator);
        }

        Doc.says("Returns the number of the sold sentence.");
        TermGate full = House.drafted(1);
        for (int number = 0; number < 40; number++) {
            Check.same("sentence no. " + number, House.sellDraft(full), number);
        }
        TermGate other = having(3, false);
        other.take(0);
        other.take(1);
        other.translate(1, 0, 5);
        Check.same("not the number of the order", other.deliver(1), 0);

        Doc.says("Throws `IllegalArgumentException` if translator is out of range");
        Check.refusesArguments(House.outside(0, 3), wrong -> other.deliver(wrong));
        Check.refusesArguments(House.outside(0, 3), wrong -> new TermGate().deliver(wrong));
        Check.refusesArguments(House.outside(0, 3), wrong -> full.deliver(wrong));
        Check.same("nothing is sold", other.sold(), 1);
    }

    private static void promise12Refuses() {
        Doc.says("Throws `IllegalStateException` if the translator has none, it cannot be delivered, or 40 were sold");
        refusesEmptyHands((x, who) -> x.deliver(who));
        TermGate y = House.holding(0, 0, false, 1, 2);
        Check.throwsState("no word became something", () -> y.deliver(0));
        y.translate(0, 0, 0);
        Check.throwsState("the last word became nothing", () -> y.deliver(0));
        y.translate(0, 1, 0);
        House.rule(y, 0, 2, 1);
        Check.throwsState("the last word is not its ruling", () -> y.deliver(0));
        y.say(0, 0, 2, -1);
        Check.same("each became something", y.deliver(0), 0);
        TermGate full = House.havingSold(39);
        Check.same("the 40th", House.sellDraft(full), 39);
        full.order(0, false);
        full.order(0, true);
        full.take(0);
        full.take(1);
        Check.throwsState("the 41st, rush", () -> full.deliver(0));
        Check.throwsState("the 41st", () -> full.deliver(1));
        Check.throwsState("the 41st, again", () -> full.deliver(1));
        Check.same("40 are sold", full.sold(), 40);
    }

    private static void promise13Why() {
        Doc.promise(13);
        Doc.says("Returns why the order that a translator has cannot be delivered:"
            + " 0 it can be (be it that 40 were sold); 1 a word has become nothing so far;"
            + " 2 each word has become something, but a ruled one not its ruling, and it is no rush order.");
        TermGate x = House.holding(0, 0, false, 1, 2);
        TermGate rush = House.holding(0, 0, true, 1, 2);
        for (TermGate y : new TermGate[] {x, rush}) {
            House.rule(y, 0, 1, 0);
            Check.same("no word became something", y.why(0), 1);
            y.translate(0, 0, 1);
            Check.same("the last became nothing, the first is not its ruling", y.why(0), 1);
            y.translate(0, 1, 0);
        }
        Check.same("the first is not its ruling", x.why(0), 2);
        Check.same("a rush order", rush.why(0), 0);
        x.translate(0, 0, 0);
        Check.same("the first is its ruling, the lowest", x.why(0), 0);
        House.rule(x, 0, 2, 99);
        Check.same("the last is not its ruling", x.why(0), 2);
        TermGate full = House.havingSold(40);
        full.order(0, false);
        full.take(0);
        Check.same("40 were sold", full.why(0), 0);
        House.rule(full, 0, 1, 9);
        Check.same("40 were sold, and it is not its ruling", full.why(0), 2);

        Doc.says("- `translator`: 0 to 3");
        TermGate y = having(4, false);
        for (int translator = 0; translator < 4; translator++) {
            y.take(translator);
        }
        for (int translator = 0; translator < 4; translator++) {
            Check.same("this translator", y.why(translator), 1);
            y.translate(translator, 0, 5);
            Check.same("this translator, behind the last word", y.why(translator), 0);
        }

        Doc.says("Throws `IllegalArgumentException` if translator is out of range");
        Check.refusesArguments(House.outside(0, 3), wrong -> x.why(wrong));
        Check.refusesArguments(House.outside(0, 3), wrong -> new TermGate().why(wrong));

        Doc.says("Throws `IllegalStateException` if the translator has none");
        refusesEmptyHands((z, who) -> z.why(who));
    }

    private static void promise14Wherefore() {
        Doc.promise(14);
        Doc.says("Returns the first place of the order that a translator has for which why() tells what it does,"
            + " -1 if it tells 0.");
        TermGate x = House.holding(0, 0, false, 1, 1, 1, 1, 1, 1, 1, 1);
        House.rule(x, 0, 1, 0);
        for (int place = 0; place < 8; place++) {
            Check.same("the first that became nothing", x.wherefore(0), place);
            x.translate(0, place, 1);
        }
        for (int place = 0; place < 8; place++) {
            Check.same("the first that is not its ruling", x.wherefore(0), place);
            x.translate(0, place, 0);
        }
        Check.same("it can be delivered", x.wherefore(0), NONE);
        x.translate(0, 7, 99);
        Check.same("the last", x.wherefore(0), 7);
        TermGate rush = House.holding(0, 0, true, 1);
        House.rule(rush, 0, 1, 0);
        Check.same("the only one of a rush order", rush.wherefore(0), 0);
        rush.translate(0, 0, 1);
        Check.same("a rush order against a ruling", rush.wherefore(0), NONE);
        TermGate full = House.havingSold(40);
        full.order(0, false);
        full.take(0);
        Check.same("40 were sold", full.wherefore(0), NONE);

        Doc.says("- `translator`: 0 to 3");
        TermGate y = having(4, false);
        for (int translator = 0; translator < 4; translator++) {
            y.take(translator);
        }
        for (int translator = 0; translator < 4; translator++) {
            Check.same("this translator", y.wherefore(translator), 0);
            y.translate(translator, 0, 5);
            Check.same("this translator, behind the last word", y.wherefore(translator), NONE);
        }

        Doc.says("Throws `IllegalArgumentException` if translator is out of range");
        Check.refusesArguments(House.outside(0, 3), wrong -> x.wherefore(wrong));
        Check.refusesArguments(House.outside(0, 3), wrong -> new TermGate().wherefore(wrong));

        Doc.says("Throws `IllegalStateException` if the translator has none");
        refusesEmptyHands((z, who) -> z.wherefore(who));
    }

    private static void promise15Became() {
        Doc.promise(15);
        Doc.says("Returns what a word of the order that a translator has became, -1 if nothing so far.");
        TermGate x = House.holding(0, 0, false, 7);
        Check.same("nothing so far", x.became(0, 0), NONE);
        x.translate(0, 0, 0);
        Check.same("the lowest is not nothing", x.became(0, 0), 0);
        x.translate(0, 0, 99);
        Check.same("the highest", x.became(0, 0), 99);

        Doc.says("- `translator`: 0 to 3");
        TermGate y = having(4, false);
        for (int translator = 0; translator < 4; translator++) {
            y.take(translator);
            y.translate(translator, 0, 10 + translator);
        }
        for (int translator = 0; translator < 4; translator++) {
            Check.same("this translator's", y.became(translator, 0), 10 + translator);
        }

        Doc.says("- `place`: from 0");
        TermGate eight = House.holding(0, 0, false, 1, 1, 1, 1, 1, 1, 1, 1);
        for (int place = 0; place < 8; place++) {
            eight.translate(0, place, 10 + place);
        }
        for (int place = 0; place < 8; place++) {
            Check.same("at " + place, eight.became(0, place), 10 + place);
        }

        Doc.says("Throws `IllegalArgumentException` if translator is out of range");
        Check.refusesArguments(House.outside(0, 3), wrong -> x.became(wrong, 0));
        Check.refusesArguments(House.outside(0, 3), wrong -> x.became(wrong, -1));
        Check.refusesArguments(House.outside(0, 3), wrong -> new TermGate().became(wrong, 0));

        Doc.says("Throws `IllegalStateException` if the translator has none");
        refusesEmptyHands((z, who) -> z.became(who, 0));
        refusesEmptyHands((z, who) -> z.became(who, -1));
        refusesEmptyHands((z, who) -> z.became(who, 8));

        Doc.says("Throws `IndexOutOfBoundsException` if the order has no such place");
        Check.refusesPlaces(House.outside(0, 0), wrong -> x.became(0, wrong));
        Check.refusesPlaces(House.outside(0, 7), wrong -> eight.became(0, wrong));
    }

    private static void promise16Match() {
        Doc.promise(16);
        Doc.says("Returns the match that the order that a translator has was taken with, -1 if it had none.");
        TermGate x = House.holding(0, 0, false, 1);
        Check.same("none was sold", x.match(0), NONE);
        x.order(0, false);
        x.order(0, false);
        x.translate(0, 0, 5);
        x.take(1);
        x.deliver(0);
        Check.same("none was sold as it was taken", x.match(1), NONE);
        x.take(0);
        Check.same("the first", x.match(0), 0);
        House.rule(x, 0, 1, 9);
        Check.same("the first, which is due by now", x.match(0), 0);
        x.giveBack(0);
        x.take(0);
        Check.same("the only one is due as it is taken again", x.match(0), NONE);
        TermGate full = House.havingSold(40);
        full.order(0, false);
        full.take(0);
        Check.same("the last of 40", full.match(0), 39);

        Doc.says("- `translator`: 0 to 3");
        TermGate y = new TermGate();
        for (int client = 0; client < 4; client++) {
            House.sell(y, client, false, 1);
        }
        for (int client = 0; client < 4; client++) {
            y.order(client, false);
            y.take(client);
        }
        for (int translator = 0; translator < 4; translator++) {
            Check.same("this translator's", y.match(translator), translator);
        }

        Doc.says("Throws `IllegalArgumentException` if translator is out of range");
        Check.refusesArguments(House.outside(0, 3), wrong -> y.match(wrong));
        Check.refusesArguments(House.outside(0, 3), wrong -> new TermGate().match(wrong));

        Doc.says("Throws `IllegalStateException` if the translator has none");
        refusesEmptyHands((z, who) -> z.match(who));
    }

    private static void promise17Waiting() {
        Doc.promise(17);
        Doc.says("Returns how many orders wait at a desk.");
        TermGate x = House.drafted(1);
        Check.same("none at first", x.waiting(false), 0);
        for (int number = 0; number < 60; number++) {
            x.order(0, false);
            Check.same("one more", x.waiting(false), number + 1);
        }
        x.take(0);
        Check.same("one less", x.waiting(false), 59);
        x.giveBack(0);
        Check.same("all 60", x.waiting(false), 60);
        TermGate one = having(1, false);
        one.take(0);
        Check.same("the only one is taken", one.waiting(false), 0);
        one.take(1);
        Check.same("none was taken", one.waiting(false), 0);

        Doc.says("- `isRush`: whether at the rush desk");
        Check.same("none of 60", x.waiting(true), 0);
        TermGate rush = having(60, true);
        Check.same("60 at the rush desk", rush.waiting(true), 60);
        Check.same("none at the other", rush.waiting(false), 0);
    }

    private static void promise18OrderAt() {
        Doc.promise(18);
        Doc.says("Returns what an order is: -1 it waits; -2 it is sold; otherwise the translator who has it.");
        TermGate x = having(5, false);
        for (int number = 0; number < 5; number++) {
            Check.same("it waits", x.orderAt(number), -1);
        }
        for (int translator = 0; translator < 4; translator++) {
            x.take(translator);
            Check.same("the translator " + translator + " has it", x.orderAt(translator), translator);
        }
        Check.same("the last one waits", x.orderAt(4), -1);
        x.giveBack(3);
        Check.same("given back, it waits", x.orderAt(3), -1);
        x.translate(0, 0, 5);
        Check.same("it is not sold so far", x.orderAt(0), 0);
        x.deliver(0);
        Check.same("it is sold", x.orderAt(0), -2);
        x.take(0);
        Check.same("it is with another one by now", x.orderAt(3), 0);

        Doc.says("Throws `IndexOutOfBoundsException` if there is no such order");
        Check.throwsPlace("the first of a new object", () -> new TermGate().orderAt(0));
        TermGate y = having(1, true);
        Check.same("the only one", y.orderAt(0), -1);
        Check.refusesPlaces(House.outside(0, 0), wrong -> y.orderAt(wrong));
        TermGate full = having(60, false);
        Check.same("the last of 60", full.orderAt(59), -1);
        Check.refusesPlaces(House.outside(0, 59), wrong -> full.orderAt(wrong));
    }
}
