/** Shorthands for calls that most tests need. */
final class House {
    static final int NONE = -1;

    private House() {
    }

    /** A new object with a draft of these words. */
    static TermGate drafted(int... words) {
        TermGate x = new TermGate();
        draft(x, words);
        return x;
    }

    /** A new object in which a translator has an order of these words. */
    static TermGate holding(int translator, int client, boolean isRush, int... words) {
        TermGate x = drafted(words);
        x.order(client, isRush);
        x.take(translator);
        return x;
    }

    /** A new object that has sold client 0 so many sentences of the word 1, become 5; the draft has that word. */
    static TermGate havingSold(int count) {
        TermGate x = drafted(1);
        for (int number = 0; number < count; number++) {
            sellDraft(x);
        }
        return x;
    }

    static void draft(TermGate x, int... words) {
        x.clear();
        for (int word : words) {
            x.word(word);
        }
    }

    static int sellDraft(TermGate x) {
        x.order(0, false);
        x.take(3);
        x.translate(3, 0, 5);
        return x.deliver(3);
    }

    /** Sells words of a client that become 50 and on, by translator 3, with nothing else waiting. */
    static int sell(TermGate x, int client, boolean isRush, int... words) {
        draft(x, words);
        x.order(client, isRush);
        x.take(3);
        for (int place = 0; place < words.length; place++) {
            x.translate(3, place, 50 + words[place]);
        }
        return x.deliver(3);
    }

    static void rule(TermGate x, int client, int word, int becomes) {
        x.say(0, client, word, becomes);
        x.say(1, client, word, becomes);
    }

    static int bit(boolean is) {
        return is ? 1 : 0;
    }

    /** What a range does not allow: its neighbours, the farthest ones, and what a narrower type would let in. */
    static int[] outside(int from, int to) {
        return new int[] {from - 1, to + 1, Integer.MIN_VALUE, Integer.MAX_VALUE,
            from - 256, from + 256, from + 65536, to - 65536};
    }
}
