/** Promises 29 to 32, sentence by sentence: the last that is allowed, the first that is not, what is empty and full. */
public final class PriceBoundariesTest {
    public static void main(String[] args) {
        promise29SetPrices();
        promise30Paid();
        promise31Earned();
        promise32Purse();
        Doc.allSaid(29, 32);
        Check.end();
    }

    private static void promise29SetPrices() {
        Doc.promise(29);
        Doc.says("Sets the least likeness of a match, and price and rate of a word.");
        TermGate x = new TermGate();
        House.sell(x, 0, false, 1, 2);
        House.draft(x, 1);
        x.setPrices(51, 3, 7);
        Check.same("the least", x.best(0), -1);
        Check.same("the price", x.cost(0, false), 3);
        House.sellDraft(x);
        Check.same("the rate", x.earned(3), 12 + 7);

        Doc.says("- `least`: 1 to 100");
        TermGate y = new TermGate();
        House.sell(y, 0, false, 1, 2, 3, 4, 5, 6, 7, 8);
        y.setPrices(100, 10, 6);
        Check.same("100 is 100", y.best(0), 0);
        House.draft(y, 1, 2, 3, 4, 5, 6, 7, 9);
        Check.same("87 is less than 100", y.best(0), -1);
        House.draft(y, 1);
        y.setPrices(13, 10, 6);
        Check.same("12 is less than 13", y.best(0), -1);
        y.setPrices(12, 10, 6);
        Check.same("12 is 12", y.best(0), 0);
        y.setPrices(1, 10, 6);
        Check.same("12 is more than 1", y.best(0), 0);

        Doc.says("- `price`: 0 to 100");
        House.draft(x, 9);
        for (int price = 0; price <= 100; price++) {
            x.setPrices(50, price, 6);
            Check.same("at this price", x.cost(0, false), price);
        }

        Doc.says("- `rate`: 0 to 100");
        for (int rate : new int[] {0, 1, 99, 100}) {
            TermGate z = House.drafted(1);
            z.setPrices(50, 10, rate);
            House.sellDraft(z);
            Check.same("at this rate", z.earned(3), rate);
        }

        Doc.says("Throws `IllegalArgumentException` if least, price or rate is out of range");
        TermGate z = new TermGate();
        House.sell(z, 0, false, 1, 2);
        House.draft(z, 1);
        Check.refusesArguments(House.outside(1, 100), wrong -> z.setPrices(wrong, 50, 50));
        Check.refusesArguments(House.outside(0, 100), wrong -> z.setPrices(100, wrong, 50));
        Check.refusesArguments(House.outside(0, 100), wrong -> z.setPrices(100, 50, wrong));
        Check.same("the least stays", z.best(0), 0);
        Check.same("the price stays", z.cost(0, false), 9);
        House.sellDraft(z);
        Check.same("the rate stays", z.earned(3), 12 + 5);
    }

    private static void promise30Paid() {
        Doc.promise(30);
        Doc.says("Returns what a client has paid, less what it got back.");
        TermGate x = House.drafted(1);
        Check.same("nothing at first", x.paid(0), 0);
        x.order(0, false);
        Check.same("nothing for an order", x.paid(0), 0);
        x.take(0);
        x.translate(0, 0, 5);
        Check.same("nothing before it is delivered", x.paid(0), 0);
        x.deliver(0);
        Check.same("paid for a delivery", x.paid(0), 10);
        House.rule(x, 0, 1, 6);
        Check.same("nothing for a sentence that is due", x.paid(0), 10);
        x.mend(0);
        Check.same("paid for a mending", x.paid(0), 13);
        TermGate y = new TermGate();
        for (int word = 0; word < 8; word++) {
            House.rule(y, 3, word, 1);
        }
        y.setPrices(100, 0, 100);
        House.sell(y, 3, true, 0, 1, 2, 3, 4, 5, 6, 7);
        Check.same("paid at no price", y.paid(3), 0);
        y.mend(0);
        Check.same("more back than was paid", y.paid(3), -40);
        TermGate full = House.drafted(1, 2, 3, 4, 5, 6, 7, 8);
        full.setPrices(100, 100, 100);
        full.order(0, true);
        full.take(0);
        for (int place = 0; place < 8; place++) {
            full.translate(0, place, 0);
        }
        full.deliver(0);
        Check.same("the dearest order", full.paid(0), 1200);
        for (int number = 1; number < 40; number++) {
            full.order(0, true);
            full.take(0);
            full.deliver(0);
        }
        Check.same("40 sentences of 8 words", full.paid(0), 1200 + 39 * 240);

        Doc.says("- `client`: 0 to 3");
        TermGate z = House.drafted(1);
        for (int client = 0; client < 4; client++) {
            z.setPrices(100, 20 * client, 0);
            z.order(client, false);
            z.take(client);
        }
        for (int client = 0; client < 4; client++) {
            z.translate(client, 0, 5);
            z.deliver(client);
        }
        for (int client = 0; client < 4; client++) {
            Check.same("this client's", z.paid(client), 20 * client);
        }

        Doc.says("Throws `IllegalArgumentException` if client is out of range");
        Check.refusesArguments(House.outside(0, 3), wrong -> z.paid(wrong));
        Check.refusesArguments(House.outside(0, 3), wrong -> new TermGate().paid(wrong));
    }

    private static void promise31Earned() {
        Doc.promise(31);
        Doc.says("Returns what a translator has got.");
        TermGate x = House.drafted(1);
        Check.same("nothing at first", x.earned(0), 0);
        x.order(0, true);
        x.take(0);
        x.translate(0, 0, 5);
        Check.same("nothing before it is delivered", x.earned(0), 0);
        x.giveBack(0);
        Check.same("nothing for one given back", x.earned(0), 0);
        x.take(1);
        x.translate(1, 0, 5);
        x.deliver(1);
        Check.same("got for a rush order what another one gets", x.earned(1), 6);
        Check.same("nothing for who gave it back", x.earned(0), 0);
        x.order(0, false);
        x.take(1);
        x.deliver(1);
        Check.same("a share of 20 of 6 is rounded down", x.earned(1), 7);
        House.rule(x, 0, 1, 6);
        x.mend(0);
        Check.same("nothing for a mending", x.earned(1), 7);
        TermGate y = new TermGate();
        y.setPrices(100, 0, 100);
        House.sell(y, 0, false, 0, 1, 2, 3, 4, 5, 6, 7);
        Check.same("the dearest pay", y.earned(3), 800);

        Doc.says("- `translator`: 0 to 3");
        TermGate z = House.drafted(1);
        for (int translator = 0; translator < 4; translator++) {
            z.setPrices(100, 0, 1 + translator);
            z.order(0, false);
            z.take(translator);
        }
        for (int translator = 0; translator < 4; translator++) {
            z.translate(translator, 0, 5);
            z.deliver(translator);
        }
        for (int translator = 0; translator < 4; translator++) {
            Check.same("this translator's", z.earned(translator), 1 + translator);
        }

        Doc.says("Throws `IllegalArgumentException` if translator is out of range");
        Check.refusesArguments(House.outside(0, 3), wrong -> z.earned(wrong));
        Check.refusesArguments(House.outside(0, 3), wrong -> new TermGate().earned(wrong));
    }

    private static void promise32Purse() {
        Doc.promise(32);
        Doc.says("Returns what all clients have paid, less what all translators have got.");
        Check.same("nothing at first", new TermGate().purse(), 0);
        TermGate x = House.drafted(1);
        for (int number = 0; number < 4; number++) {
            x.setPrices(100, 10 + number, number);
            x.order(number, false);
            x.take(number);
        }
        Check.same("nothing before they are delivered", x.purse(), 0);
        int want = 0;
        for (int number = 0; number < 4; number++) {
            x.translate(number, 0, 5);
            x.deliver(number);
            want += 10;
            Check.same("with one more client and translator", x.purse(), want);
        }
        House.rule(x, 3, 1, 6);
        x.mend(3);
        Check.same("with a mending", x.purse(), 43);
        TermGate loss = new TermGate();
        loss.setPrices(100, 0, 100);
        House.sell(loss, 0, false, 0, 1, 2, 3, 4, 5, 6, 7);
        Check.same("less than nothing", loss.purse(), -800);
    }
}
