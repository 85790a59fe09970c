/** Promises 19 to 28, sentence by sentence: the last that is allowed, the first that is not, what is empty and full. */
public final class SoldBoundariesTest {
    private static final int NONE = House.NONE;

    public static void main(String[] args) {
        promise19Say();
        promise19Refuses();
        promise20Ruling();
        promise21Sold();
        promise22ClientOf();
        promise23WordOf();
        promise24BecameOf();
        promise25IsDue();
        promise26Due();
        promise27DueAt();
        promise28Mend();
        Doc.allSaid(19, 28);
        Check.end();
    }

    private static void promise19Say() {
        Doc.promise(19);
        Doc.says("Lets a terminologist say what a word is to become for a client.");
        TermGate x = new TermGate();
        x.say(0, 0, 0, 5);
        x.say(1, 0, 0, 6);
        Check.same("two said two things", x.ruling(0, 0), NONE);
        x.say(1, 0, 0, 5);
        Check.same("the second one in place of what was said", x.ruling(0, 0), 5);
        x.say(0, 0, 0, 6);
        Check.same("the first one in place of what was said", x.ruling(0, 0), NONE);

        Doc.says("- `terminologist`: 0 to 2");
        for (int silent = 0; silent < 3; silent++) {
            TermGate y = new TermGate();
            for (int voice = 0; voice < 3; voice++) {
                if (voice != silent) {
                    y.say(voice, 3, 49, 5);
                }
            }
            Check.same("all but the terminologist " + silent, y.ruling(3, 49), 5);
            y.say(silent == 0 ? 1 : 0, 3, 49, 6);
            Check.same("a single one of them", y.ruling(3, 49), NONE);
        }

        Doc.says("- `client`: 0 to 3");
        TermGate z = new TermGate();
        for (int client = 0; client < 4; client++) {
            House.rule(z, client, 7, 10 + client);
        }
        for (int client = 0; client < 4; client++) {
            Check.same("this client's", z.ruling(client, 7), 10 + client);
        }

        Doc.says("- `word`: 0 to 49");
        for (int client = 0; client < 4; client++) {
            TermGate y = new TermGate();
            for (int word = 0; word < 50; word++) {
                House.rule(y, client, word, 99 - word);
            }
            for (int word = 0; word < 50; word++) {
                Check.same("this word's", y.ruling(client, word), 99 - word);
                Check.same("another client's", y.ruling((client + 1) % 4, word), NONE);
                Check.same("another client's", y.ruling((client + 3) % 4, word), NONE);
            }
        }

        Doc.says("- `becomes`: 0 to 99, or -1 for nothing");
        TermGate y = new TermGate();
        for (int becomes = 0; becomes < 100; becomes++) {
            House.rule(y, 1, 1, becomes);
            Check.same("it is to become that", y.ruling(1, 1), becomes);
        }
        House.rule(y, 1, 1, -1);
        Check.same("it is to become nothing", y.ruling(1, 1), NONE);

        Doc.says("Returns how many sentences are due then.");
        TermGate full = House.havingSold(40);
        Check.same("none by one voice", full.say(0, 0, 1, 6), 0);
        Check.same("all 40 by two", full.say(2, 0, 1, 6), 40);
        Check.same("all 40 by three", full.say(1, 0, 1, 6), 40);
        Check.same("all 40 for another word's sake", full.say(1, 0, 2, 6), 40);
        full.mend(20);
        Check.same("39 of 40", full.say(1, 0, 1, -1), 39);
        Check.same("none by one voice again", full.say(2, 0, 1, 5), 0);
        Check.same("the one that was mended", full.say(0, 0, 1, 5), 1);
    }

    private static void promise19Refuses() {
        Doc.says("Throws `IllegalArgumentException` if terminologist, client, word or becomes is out of range");
        TermGate x = House.havingSold(1);
        House.rule(x, 0, 1, 6);
        Check.refusesArguments(House.outside(0, 2), wrong -> x.say(wrong, 0, 1, 5));
        Check.refusesArguments(House.outside(0, 3), wrong -> x.say(0, wrong, 1, 5));
        Check.refusesArguments(House.outside(0, 49), wrong -> x.say(0, 0, wrong, 5));
        Check.refusesArguments(House.outside(-1, 99), wrong -> x.say(0, 0, 1, wrong));
        Check.refusesArguments(House.outside(-1, 99), wrong -> x.say(1, 0, 1, wrong));
        Check.same("the ruling stays", x.ruling(0, 1), 6);
        Check.same("so does the list", x.due(), 1);
    }

    private static void promise20Ruling() {
        Doc.promise(20);
        Doc.says("Returns the ruling of a word for a client, -1 if it is not ruled.");
        TermGate x = new TermGate();
        Check.same("at first", x.ruling(0, 0), NONE);
        House.rule(x, 0, 0, 0);
        Check.same("the lowest is not nothing", x.ruling(0, 0), 0);
        House.rule(x, 3, 49, 99);
        Check.same("the highest", x.ruling(3, 49), 99);
        x.say(2, 3, 49, 98);
        Check.same("two against one", x.ruling(3, 49), 99);
        x.say(1, 3, 49, -1);
        Check.same("one against one", x.ruling(3, 49), NONE);
        x.say(2, 3, 49, -1);
        Check.same("two say nothing, and one something", x.ruling(3, 49), NONE);

        Doc.says("- `client`: 0 to 3");
        for (int client = 0; client < 4; client++) {
            TermGate y = new TermGate();
            House.rule(y, client, 0, 5);
            for (int other = 0; other < 4; other++) {
                Check.same("for this client alone", y.ruling(other, 0), other == client ? 5 : NONE);
            }
        }

        Doc.says("- `word`: 0 to 49");
        for (int ruled : new int[] {0, 1, 48, 49}) {
            TermGate y = new TermGate();
            House.rule(y, 2, ruled, 5);
            for (int word = 0; word < 50; word++) {
                Check.same("this word alone", y.ruling(2, word), word == ruled ? 5 : NONE);
            }
        }

        Doc.says("Throws `IllegalArgumentException` if client or word is out of range");
        Check.refusesArguments(House.outside(0, 3), wrong -> x.ruling(wrong, 0));
        Check.refusesArguments(House.outside(0, 49), wrong -> x.ruling(0, wrong));
        Check.refusesArguments(House.outside(0, 49), wrong -> x.ruling(3, wrong));
        Check.throwsArgument("both", () -> x.ruling(4, 50));
    }

    private static void promise21Sold() {
        Doc.promise(21);
        Doc.says("Returns how many sentences were sold.");
        TermGate x = House.drafted(1);
        Check.same("none at first", x.sold(), 0);
        for (int number = 0; number < 40; number++) {
            x.order(0, false);
            Check.same("an order is not sold", x.sold(), number);
            x.take(0);
            x.translate(0, 0, 5);
            Check.same("nor one that can be delivered", x.sold(), number);
            x.deliver(0);
            Check.same("one more", x.sold(), number + 1);
        }
        House.rule(x, 0, 1, 6);
        x.mend(0);
        Check.same("mended ones are sold still", x.sold(), 40);
    }

    /** A new object with a sentence of one word, a rush order's, for client 3, and one of eight words for client 0. */
    private static TermGate shortAndLong() {
        TermGate x = new TermGate();
        House.sell(x, 3, true, 49);
        House.sell(x, 0, false, 0, 1, 2, 3, 4, 5, 6, 7);
        House.draft(x, 9);
        x.order(1, false);
        x.take(0);
        x.translate(0, 0, 9);
        return x;
    }

    private static void promise22ClientOf() {
        Doc.promise(22);
        Doc.says("Returns the client of a sold sentence.");
        TermGate x = shortAndLong();
        Check.same("the highest client", x.clientOf(0), 3);
        Check.same("the lowest client", x.clientOf(1), 0);
        TermGate full = House.drafted(1);
        for (int number = 0; number < 40; number++) {
            full.order(number % 4, false);
            full.take(0);
            full.translate(0, 0, 5);
            full.deliver(0);
            Check.same("of one of 40", full.clientOf(number), number % 4);
        }
        Check.same("of the first of 40", full.clientOf(0), 0);

        Doc.says("Throws `IndexOutOfBoundsException` if there is no such sentence");
        Check.refusesPlaces(new int[] {-1, 0, 1}, wrong -> new TermGate().clientOf(wrong));
        Check.refusesPlaces(House.outside(0, 1), wrong -> x.clientOf(wrong));
        Check.refusesPlaces(House.outside(0, 39), wrong -> full.clientOf(wrong));
    }

    private static void promise23WordOf() {
        Doc.promise(23);
        Doc.says("Returns a word of a sold sentence.");
        TermGate x = shortAndLong();
        Check.same("the only one of the first, the highest", x.wordOf(0, 0), 49);

        Doc.says("- `place`: from 0");
        for (int place = 0; place < 8; place++) {
            Check.same("at " + place, x.wordOf(1, place), place);
        }

        Doc.says("Throws `IndexOutOfBoundsException` if there is no such sentence or place");
        Check.refusesPlaces(House.outside(0, 1), wrong -> x.wordOf(wrong, 0));
        Check.refusesPlaces(House.outside(0, 0), wrong -> x.wordOf(0, wrong));
        Check.refusesPlaces(House.outside(0, 7), wrong -> x.wordOf(1, wrong));
        Check.throwsPlace("neither", () -> x.wordOf(2, 8));
        Check.refusesPlaces(new int[] {-1, 0, 1}, wrong -> new TermGate().wordOf(wrong, 0));
        TermGate full = House.havingSold(40);
        Check.same("of the last of 40", full.wordOf(39, 0), 1);
        Check.refusesPlaces(House.outside(0, 39), wrong -> full.wordOf(wrong, 0));
    }

    private static void promise24BecameOf() {
        Doc.promise(24);
        Doc.says("Returns what a word of a sold sentence became.");
        TermGate x = shortAndLong();
        Check.same("the only one of the first, the highest", x.becameOf(0, 0), 99);
        House.rule(x, 3, 49, 0);
        Check.same("due, it stays what it became", x.becameOf(0, 0), 99);
        x.mend(0);
        Check.same("mended, it became the lowest", x.becameOf(0, 0), 0);

        Doc.says("- `place`: from 0");
        for (int place = 0; place < 8; place++) {
            Check.same("at " + place, x.becameOf(1, place), 50 + place);
        }

        Doc.says("Throws `IndexOutOfBoundsException` if there is no such sentence or place");
        Check.refusesPlaces(House.outside(0, 1), wrong -> x.becameOf(wrong, 0));
        Check.refusesPlaces(House.outside(0, 0), wrong -> x.becameOf(0, wrong));
        Check.refusesPlaces(House.outside(0, 7), wrong -> x.becameOf(1, wrong));
        Check.throwsPlace("neither", () -> x.becameOf(2, 8));
        Check.refusesPlaces(new int[] {-1, 0, 1}, wrong -> new TermGate().becameOf(wrong, 0));
        TermGate full = House.havingSold(40);
        Check.same("of the last of 40", full.becameOf(39, 0), 5);
        Check.refusesPlaces(House.outside(0, 39), wrong -> full.becameOf(wrong, 0));
    }

    private static void checkIsDue(String when, TermGate x, int sentence, boolean want) {
        Check.same(when, House.bit(x.isDue(sentence)), House.bit(want));
    }

    private static void promise25IsDue() {
        Doc.promise(25);
        Doc.says("Tells whether a sold sentence is due, told from its words.");
        TermGate x = shortAndLong();
        checkIsDue("nothing is ruled", x, 1, false);
        x.say(0, 0, 0, 99);
        checkIsDue("one voice", x, 1, false);
        x.say(1, 0, 0, 99);
        checkIsDue("the first word became something else", x, 1, true);
        House.rule(x, 0, 0, 50);
        checkIsDue("the first word became its ruling", x, 1, false);
        House.rule(x, 0, 7, 0);
        checkIsDue("the last word became something else", x, 1, true);
        x.mend(1);
        checkIsDue("mended", x, 1, false);
        House.rule(x, 0, 7, -1);
        checkIsDue("ruled no more", x, 1, false);
        House.rule(x, 0, 49, 0);
        checkIsDue("another client's word", x, 0, false);
        House.rule(x, 3, 0, 0);
        checkIsDue("another sentence's word", x, 0, false);
        House.rule(x, 3, 49, 0);
        checkIsDue("its only word", x, 0, true);
        House.rule(x, 3, 49, 99);
        checkIsDue("its only word as it became", x, 0, false);
        TermGate full = House.havingSold(40);
        checkIsDue("the last of 40", full, 39, false);
        House.rule(full, 0, 1, 6);
        checkIsDue("the last of 40, due", full, 39, true);
        checkIsDue("the first of 40, due", full, 0, true);

        Doc.says("Throws `IndexOutOfBoundsException` if there is no such sentence");
        Check.refusesPlaces(new int[] {-1, 0, 1}, wrong -> new TermGate().isDue(wrong));
        Check.refusesPlaces(House.outside(0, 1), wrong -> x.isDue(wrong));
        Check.refusesPlaces(House.outside(0, 39), wrong -> full.isDue(wrong));
    }

    private static void promise26Due() {
        Doc.promise(26);
        Doc.says("Returns how many sentences the list has.");
        Check.same("of a new object", new TermGate().due(), 0);
        TermGate x = House.drafted(1);
        House.rule(x, 0, 1, 6);
        for (int number = 0; number < 40; number++) {
            x.order(0, true);
            x.take(0);
            x.translate(0, 0, 5);
            Check.same("an order is not due", x.due(), number);
            x.deliver(0);
            Check.same("delivered as due", x.due(), number + 1);
        }
        for (int number = 0; number < 40; number++) {
            x.mend(number);
            Check.same("one less", x.due(), 39 - number);
        }
        x.say(0, 0, 1, 5);
        Check.same("none by no ruling", x.due(), 0);
        x.say(1, 0, 1, 5);
        Check.same("all 40 by one call", x.due(), 40);
        x.say(1, 0, 1, -1);
        Check.same("none behind one call", x.due(), 0);
    }

    private static void promise27DueAt() {
        Doc.promise(27);
        Doc.says("Returns a sentence of the list.");
        TermGate x = House.havingSold(3);
        House.rule(x, 0, 1, 6);
        x.mend(0);
        Check.same("the place is not the number", x.dueAt(0), 1);

        Doc.says("- `place`: from 0");
        TermGate full = House.havingSold(40);
        House.rule(full, 0, 1, 6);
        for (int place = 0; place < 40; place++) {
            Check.same("one of 40", full.dueAt(place), place);
        }

        Doc.says("Throws `IndexOutOfBoundsException` if there is no such place");
        Check.refusesPlaces(new int[] {-1, 0, 1}, wrong -> new TermGate().dueAt(wrong));
        Check.refusesPlaces(House.outside(0, 1), wrong -> x.dueAt(wrong));
        Check.refusesPlaces(House.outside(0, 39), wrong -> full.dueAt(wrong));
        full.mend(0);
        Check.throwsPlace("the place of one that left", () -> full.dueAt(39));
        x.mend(1);
        Check.same("the last one left", x.dueAt(0), 2);
        x.mend(2);
        Check.throwsPlace("an empty list", () -> x.dueAt(0));
    }

    private static void promise28Mend() {
        Doc.promise(28);
        Doc.says("Mends a sold sentence.");
        TermGate x = shortAndLong();
        House.rule(x, 0, 0, 9);
        House.rule(x, 0, 7, 8);
        x.mend(1);
        Check.same("the first word", x.becameOf(1, 0), 9);
        Check.same("a word that is not ruled", x.becameOf(1, 1), 51);
        Check.same("the last word", x.becameOf(1, 7), 8);
        checkIsDue("it is due no more", x, 1, false);
        Check.same("the list is empty", x.due(), 0);

        Doc.says("Returns how many words become something else.");
        House.rule(x, 0, 3, 0);
        Check.same("one, the others are as ruled", x.mend(1), 1);
        for (int word = 0; word < 8; word++) {
            House.rule(x, 0, word, 40);
        }
        Check.same("all eight", x.mend(1), 8);
        House.rule(x, 3, 49, 0);
        Check.same("the only one", x.mend(0), 1);
        TermGate full = House.havingSold(40);
        House.rule(full, 0, 1, 6);
        Check.same("the one of the last of 40", full.mend(39), 1);

        Doc.says("Throws `IndexOutOfBoundsException` if there is no such sentence");
        Check.refusesPlaces(new int[] {-1, 0, 1}, wrong -> new TermGate().mend(wrong));
        Check.refusesPlaces(House.outside(0, 1), wrong -> x.mend(wrong));
        Check.refusesPlaces(House.outside(0, 39), wrong -> full.mend(wrong));

        Doc.says("Throws `IllegalStateException` if it is not due");
        TermGate y = House.havingSold(2);
        Check.throwsState("nothing is ruled", () -> y.mend(0));
        House.rule(y, 0, 1, 5);
        Check.throwsState("it became its ruling", () -> y.mend(0));
        House.rule(y, 0, 1, 6);
        y.mend(0);
        Check.throwsState("it was mended", () -> y.mend(0));
        Check.same("the other is due still", y.mend(1), 1);
        Check.throwsState("the last of 40 was mended", () -> full.mend(39));
    }
}
