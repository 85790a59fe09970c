import java.util.Arrays;

/**
 * A translators' house: a memory of sold sentences that are matched by edits, terms that
 * terminologists rule for each client, prices and pay by how like the best match is, a rush desk
 * whose orders skip the check of terms, and sold sentences that a ruling makes due for mending.
 */
public final class TermGate {
    private static final int CLIENTS = 4;
    private static final int TRANSLATORS = 4;
    private static final int TERMINOLOGISTS = 3;
    private static final int WORDS = 50;
    private static final int BECOMES = 100;
    private static final int MOST_WORDS = 8;
    private static final int MOST_SOLD = 40;
    private static final int MOST_ORDERS = 60;
    private static final int MOST_PRICE = 100;

    /** What a word became, or is to become, as long as that is nothing. */
    private static final int NOTHING = -1;
    /** The answer for a sentence, an order or a place when there is none. */
    private static final int NONE = -1;

    private static final int WAITS = -1;
    private static final int IS_SOLD = -2;

    private static final int CAN_BE_DELIVERED = 0;
    private static final int HAS_OPEN_WORD = 1;
    private static final int BREAKS_RULING = 2;

    private static final int BACK_FOR_OLD_RULING = 5;
    private static final int PRICE_OF_NEW_RULING = 3;

    private final Row draft = new Row();
    private final Rulings rulings = new Rulings();
    private final Memory memory = new Memory();
    private final Order[] orders = new Order[MOST_ORDERS];
    private final Order[] inHand = new Order[TRANSLATORS];
    private final Line rushDesk = new Line();
    private final Line otherDesk = new Line();
    private final int[] paidByClient = new int[CLIENTS];
    private final int[] earnedByTranslator = new int[TRANSLATORS];
    private int orderCount = 0;
    private int leastLikeness = 50;
    private int pricePerWord = 10;
    private int ratePerWord = 6;

    public TermGate() {
    }

    // ---- the draft

    public int word(int word) throws IllegalArgumentException, IllegalStateException {
        if (word < 0 || word >= WORDS) {
            throw new IllegalArgumentException();
        }
        if (draft.length >= MOST_WORDS) {
            throw new IllegalStateException();
        }
        draft.append(word);
        return draft.length;
    }

    public int clear() {
        int had = draft.length;
        draft.length = 0;
        return had;
    }

    public int likeness(int sentence) throws IndexOutOfBoundsException, IllegalStateException {
        Sentence other = soldSentence(sentence);
        refuseEmptyDraft();
        return memory.edits.likenessOf(draft, other.words);
    }

    public int best(int client) throws IllegalArgumentException, IllegalStateException {
        refuseUnlessClient(client);
        refuseEmptyDraft();
        return bestFor(client, draft);
    }

    public int bestByAll(int client) throws IllegalArgumentException, IllegalStateException {
        refuseUnlessClient(client);
        refuseEmptyDraft();
        return memory.bestAmong(Memory.ALL, draft, client, leastLikeness);
    }

    public int cost(int client, boolean isRush) throws IllegalArgumentException, IllegalStateException {
        refuseUnlessClient(client);
        refuseEmptyDraft();
        int share = memory.shareOf(draft, bestFor(client, draft));
        return costOf(draft.length, share, isRush);
    }

    // ---- orders

    public int order(int client, boolean isRush) throws IllegalArgumentException, IllegalStateException {
        refuseUnlessClient(client);
        refuseEmptyDraft();
        int number = orderCount;
        if (number < 0 || number >= orders.length) {
            throw new IllegalStateException();
        }
        orders[number] = new Order(number, isRush, new Sentence(client, draft));
        orderCount++;
        deskFor(isRush).addLast(number);
        return number;
    }

    public int take(int translator) throws IllegalArgumentException, IllegalStateException {
        refuseUnlessTranslator(translator);
        if (handOf(translator) != null) {
            throw new IllegalStateException();
        }
        Line desk = rushDesk.count > 0 ? rushDesk : otherDesk;
        Order taken = orderNumbered(desk.at(0));
        if (taken == null) {
            return NONE;
        }
        desk.removeFirst();
        putInHand(translator, taken);
        taken.standing = translator;
        begin(taken);
        return taken.number;
    }

    public int giveBack(int translator) throws IllegalArgumentException, IllegalStateException {
        Order given = orderInHandOf(translator);
        putInHand(translator, null);
        given.standing = WAITS;
        given.match = NONE;
        given.sentence.forgetAll();
        deskFor(given.isRush).addFirst(given.number);
        return given.number;
    }

    public int translate(int translator, int place, int becomes)
            throws IllegalArgumentException, IllegalStateException, IndexOutOfBoundsException {
        if (becomes < 0 || becomes >= BECOMES) {
            throw new IllegalArgumentException();
        }
        Sentence sentence = orderInHandOf(translator).sentence;
        refuseUnlessPlace(sentence, place);
        sentence.became.put(place, becomes);
        return sentence.countOpen();
    }

    public int deliver(int translator) throws IllegalArgumentException, IllegalStateException {
        Order delivered = orderInHandOf(translator);
        if (delivered.whyNot(rulings) != CAN_BE_DELIVERED || memory.count >= MOST_SOLD) {
            throw new IllegalStateException();
        }
        putInHand(translator, null);
        delivered.standing = IS_SOLD;
        addTo(paidByClient, delivered.sentence.client, delivered.cost);
        addTo(earnedByTranslator, translator, delivered.pay);
        int number = memory.keep(delivered.sentence);
        memory.listDue(rulings);
        return number;
    }

    public int why(int translator) throws IllegalArgumentException, IllegalStateException {
        return orderInHandOf(translator).whyNot(rulings);
    }

    public int wherefore(int translator) throws IllegalArgumentException, IllegalStateException {
        return orderInHandOf(translator).whereNot(rulings);
    }

    public int became(int translator, int place)
            throws IllegalArgumentException, IllegalStateException, IndexOutOfBoundsException {
        Sentence sentence = orderInHandOf(translator).sentence;
        refuseUnlessPlace(sentence, place);
        return sentence.became.at(place);
    }

    public int match(int translator) throws IllegalArgumentException, IllegalStateException {
        return orderInHandOf(translator).match;
    }

    public int waiting(boolean isRush) {
        return deskFor(isRush).count;
    }

    public int orderAt(int order) throws IndexOutOfBoundsException {
        Order found = orderNumbered(order);
        if (found == null) {
            throw new IndexOutOfBoundsException();
        }
        return found.standing;
    }

    // ---- rulings

    public int say(int terminologist, int client, int word, int becomes) throws IllegalArgumentException {
        if (terminologist < 0 || terminologist >= TERMINOLOGISTS) {
            throw new IllegalArgumentException();
        }
        refuseUnlessClientAndWord(client, word);
        if (becomes < NOTHING || becomes >= BECOMES) {
            throw new IllegalArgumentException();
        }
        rulings.hear(terminologist, Rulings.slotOf(client, word), becomes, memory.count);
        memory.listDue(rulings);
        return memory.dueList.count;
    }

    public int ruling(int client, int word) throws IllegalArgumentException {
        refuseUnlessClientAndWord(client, word);
        return rulings.rulingOf(client, word);
    }

    // ---- sold sentences

    public int sold() {
        return memory.count;
    }

    public int clientOf(int sentence) throws IndexOutOfBoundsException {
        return soldSentence(sentence).client;
    }

    public int wordOf(int sentence, int place) throws IndexOutOfBoundsException {
        Sentence found = soldSentence(sentence);
        refuseUnlessPlace(found, place);
        return found.words.at(place);
    }

    public int becameOf(int sentence, int place) throws IndexOutOfBoundsException {
        Sentence found = soldSentence(sentence);
        refuseUnlessPlace(found, place);
        return found.became.at(place);
    }

    public boolean isDue(int sentence) throws IndexOutOfBoundsException {
        return soldSentence(sentence).firstAstray(rulings) != NONE;
    }

    public int due() {
        return memory.dueList.count;
    }

    public int dueAt(int place) throws IndexOutOfBoundsException {
        if (!memory.dueList.hasPlace(place)) {
            throw new IndexOutOfBoundsException();
        }
        return memory.dueList.at(place);
    }

    public int mend(int sentence) throws IndexOutOfBoundsException, IllegalStateException {
        Sentence mended = soldSentence(sentence);
        if (mended.firstAstray(rulings) == NONE) {
            throw new IllegalStateException();
        }
        int changes = 0;
        for (int place = 0; place < mended.words.length; place++) {
            if (mended.isAstrayAt(place, rulings)) {
                addTo(paidByClient, mended.client, mendingPrice(sentence, mended.client, mended.words.at(place)));
                mended.became.put(place, rulings.rulingOf(mended.client, mended.words.at(place)));
                changes++;
            }
        }
        memory.listDue(rulings);
        return changes;
    }

    // ---- prices and pay

    public void setPrices(int least, int price, int rate) throws IllegalArgumentException {
        if (least < 1 || least > Edits.FULL_LIKENESS) {
            throw new IllegalArgumentException();
        }
        if (price < 0 || price > MOST_PRICE || rate < 0 || rate > MOST_PRICE) {
            throw new IllegalArgumentException();
        }
        leastLikeness = least;
        pricePerWord = price;
        ratePerWord = rate;
    }

    public int paid(int client) throws IllegalArgumentException {
        if (client < 0 || client >= paidByClient.length) {
            throw new IllegalArgumentException();
        }
        return paidByClient[client];
    }

    public int earned(int translator) throws IllegalArgumentException {
        if (translator < 0 || translator >= earnedByTranslator.length) {
            throw new IllegalArgumentException();
        }
        return earnedByTranslator[translator];
    }

    public int purse() {
        return sumOf(paidByClient) - sumOf(earnedByTranslator);
    }

    // ---- what several calls refuse

    private static void refuseUnlessClient(int client) {
        if (client < 0 || client >= CLIENTS) {
            throw new IllegalArgumentException();
        }
    }

    private static void refuseUnlessClientAndWord(int client, int word) {
        refuseUnlessClient(client);
        if (word < 0 || word >= WORDS) {
            throw new IllegalArgumentException();
        }
    }

    private static void refuseUnlessTranslator(int translator) {
        if (translator < 0 || translator >= TRANSLATORS) {
            throw new IllegalArgumentException();
        }
    }

    private static void refuseUnlessPlace(Sentence sentence, int place) {
        if (!sentence.words.has(place)) {
            throw new IndexOutOfBoundsException();
        }
    }

    private void refuseEmptyDraft() {
        if (draft.length == 0) {
            throw new IllegalStateException();
        }
    }

    private Sentence soldSentence(int number) {
        Sentence found = memory.sentenceAt(number);
        if (found == null) {
            throw new IndexOutOfBoundsException();
        }
        return found;
    }

    private Order orderInHandOf(int translator) {
        refuseUnlessTranslator(translator);
        Order held = handOf(translator);
        if (held == null) {
            throw new IllegalStateException();
        }
        return held;
    }

    // ---- orders, hands and desks

    private Order orderNumbered(int number) {
        return number >= 0 && number < orders.length ? orders[number] : null;
    }

    private Order handOf(int translator) {
        return translator >= 0 && translator < inHand.length ? inHand[translator] : null;
    }

    private void putInHand(int translator, Order order) {
        if (translator >= 0 && translator < inHand.length) {
            inHand[translator] = order;
        }
    }

    private Line deskFor(boolean isRush) {
        return isRush ? rushDesk : otherDesk;
    }

    /** Fixes match, cost and pay now, as later prices and sentences must not change them. */
    private void begin(Order order) {
        Sentence sentence = order.sentence;
        int length = sentence.words.length;
        order.match = bestFor(sentence.client, sentence.words);
        int share = memory.shareOf(sentence.words, order.match);
        order.cost = costOf(length, share, order.isRush);
        order.pay = length * ratePerWord * share / 100;
        memory.lendTo(sentence, order.match);
    }

    // ---- matches and money

    private int bestFor(int client, Row row) {
        return memory.bestAmong(memory.sharingWith(row), row, client, leastLikeness);
    }

    private int costOf(int length, int share, boolean isRush) {
        int plain = length * pricePerWord * share / 100;
        return isRush ? plain + plain / 2 : plain;
    }

    /** Sentences are numbered as they are sold, so the number tells which came first: sale or ruling. */
    private int mendingPrice(int sentence, int client, int word) {
        return rulings.soldAtChange(client, word) <= sentence ? -BACK_FOR_OLD_RULING : PRICE_OF_NEW_RULING;
    }

    private static void addTo(int[] sums, int place, int amount) {
        if (place >= 0 && place < sums.length) {
            sums[place] += amount;
        }
    }

    private static int sumOf(int[] sums) {
        int total = 0;
        for (int sum : sums) {
            total += sum;
        }
        return total;
    }

    /** Up to 8 words, or what they became; a place that it has not is nothing, and is not written. */
    private static final class Row {
        private final int[] values = new int[MOST_WORDS];
        private int length = 0;

        boolean has(int place) {
            return place >= 0 && place < length && place < values.length;
        }

        int at(int place) {
            return place >= 0 && place < length && place < values.length ? values[place] : NOTHING;
        }

        void put(int place, int value) {
            if (has(place)) {
                values[place] = value;
            }
        }

        void append(int value) {
            int place = length;
            if (place >= 0 && place < values.length) {
                values[place] = value;
                length = place + 1;
            }
        }
    }

    /** A client's words, and what they became: of an order first, and then for ever of the memory. */
    private static final class Sentence {
        private final int client;
        private final Row words = new Row();
        private final Row became = new Row();

        Sentence(int client, Row draft) {
            this.client = client;
            for (int place = 0; place < draft.length; place++) {
                words.append(draft.at(place));
                became.append(NOTHING);
            }
        }

        void forgetAll() {
            for (int place = 0; place < became.length; place++) {
                became.put(place, NOTHING);
            }
        }

        int countOpen() {
            int open = 0;
            for (int place = 0; place < became.length; place++) {
                if (became.at(place) == NOTHING) {
                    open++;
                }
            }
            return open;
        }

        int firstOpen() {
            for (int place = 0; place < became.length; place++) {
                if (became.at(place) == NOTHING) {
                    return place;
                }
            }
            return NONE;
        }

        boolean isAstrayAt(int place, Rulings rulings) {
            int ruling = rulings.rulingOf(client, words.at(place));
            return ruling != NOTHING && ruling != became.at(place);
        }

        int firstAstray(Rulings rulings) {
            for (int place = 0; place < words.length; place++) {
                if (isAstrayAt(place, rulings)) {
                    return place;
                }
            }
            return NONE;
        }
    }

    /** An order, with what taking it has fixed. */
    private static final class Order {
        private final int number;
        private final boolean isRush;
        private final Sentence sentence;
        /** WAITS, IS_SOLD, or the translator who has it. */
        private int standing = WAITS;
        private int match = NONE;
        private int cost = 0;
        private int pay = 0;

        Order(int number, boolean isRush, Sentence sentence) {
            this.number = number;
            this.isRush = isRush;
            this.sentence = sentence;
        }

        int whyNot(Rulings rulings) {
            if (sentence.firstOpen() != NONE) {
                return HAS_OPEN_WORD;
            }
            return firstBroken(rulings) != NONE ? BREAKS_RULING : CAN_BE_DELIVERED;
        }

        int whereNot(Rulings rulings) {
            int open = sentence.firstOpen();
            return open != NONE ? open : firstBroken(rulings);
        }

        private int firstBroken(Rulings rulings) {
            return isRush ? NONE : sentence.firstAstray(rulings);
        }
    }

    /** Numbers of orders that wait, or of sentences that are due, in their order. */
    private static final class Line {
        private final int[] numbers = new int[MOST_ORDERS];
        private int count = 0;

        boolean hasPlace(int place) {
            return place >= 0 && place < count && place < numbers.length;
        }

        int at(int place) {
            return hasPlace(place) ? numbers[place] : NONE;
        }

        boolean holds(int number) {
            for (int place = 0; place < count; place++) {
                if (at(place) == number) {
                    return true;
                }
            }
            return false;
        }

        void addLast(int number) {
            int place = count;
            if (place >= 0 && place < numbers.length) {
                numbers[place] = number;
                count = place + 1;
            }
        }

        void addFirst(int number) {
            int moved = number;
            for (int place = 0; place < count && place < numbers.length; place++) {
                int next = numbers[place];
                numbers[place] = moved;
                moved = next;
            }
            addLast(moved);
        }

        void removeFirst() {
            removeAt(0);
        }

        void removeAt(int gone) {
            if (!hasPlace(gone)) {
                return;
            }
            for (int place = gone + 1; place < count && place < numbers.length; place++) {
                numbers[place - 1] = numbers[place];
            }
            count--;
        }
    }

    /** What terminologists say, and what that rules. */
    private static final class Rulings {
        private final int[] said = new int[TERMINOLOGISTS * CLIENTS * WORDS];
        private final int[] ruled = new int[CLIENTS * WORDS];
        /** How many sentences were sold when a ruling last changed: it tells which sales are older. */
        private final int[] soldThen = new int[CLIENTS * WORDS];

        Rulings() {
            Arrays.fill(said, NOTHING);
            Arrays.fill(ruled, NOTHING);
        }

        /** Where a client's word stands; NONE unless there are such a client and such a word. */
        static int slotOf(int client, int word) {
            boolean isThere = client >= 0 && client < CLIENTS && word >= 0 && word < WORDS;
            return isThere ? client * WORDS + word : NONE;
        }

        int rulingOf(int client, int word) {
            int slot = slotOf(client, word);
            return slot >= 0 && slot < ruled.length ? ruled[slot] : NOTHING;
        }

        int soldAtChange(int client, int word) {
            int slot = slotOf(client, word);
            return slot >= 0 && slot < soldThen.length ? soldThen[slot] : 0;
        }

        void hear(int terminologist, int slot, int becomes, int soldNow) {
            int place = terminologist * CLIENTS * WORDS + slot;
            if (slot < 0 || slot >= ruled.length || slot >= soldThen.length || place < 0 || place >= said.length) {
                return;
            }
            said[place] = becomes;
            int agreed = agreedOn(slot);
            if (agreed != ruled[slot]) {
                ruled[slot] = agreed;
                soldThen[slot] = soldNow;
            }
        }

        /** Of three voices no two pairs can agree on different things, so the first pair decides. */
        private int agreedOn(int slot) {
            int first = saidBy(0, slot);
            int second = saidBy(1, slot);
            int third = saidBy(2, slot);
            if (first == second || first == third) {
                return first;
            }
            return second == third ? second : NOTHING;
        }

        private int saidBy(int terminologist, int slot) {
            int place = terminologist * CLIENTS * WORDS + slot;
            return place >= 0 && place < said.length ? said[place] : NOTHING;
        }
    }

    /** The edits between the beginnings of two rows; one table serves all comparisons. */
    private static final class Edits {
        private static final int FULL_LIKENESS = 100;
        private static final int SIDE = MOST_WORDS + 1;
        private static final int SKIP_OWN = 0;
        private static final int SKIP_OTHER = 1;
        private static final int SKIP_BOTH = 2;

        private final int[] table = new int[SIDE * SIDE];

        int likenessOf(Row row, Row other) {
            compare(row, other);
            int longer = Math.max(row.length, other.length);
            if (longer <= 0) {
                return FULL_LIKENESS;
            }
            int hundredfold = FULL_LIKENESS * between(row.length, other.length);
            return FULL_LIKENESS - (hundredfold + longer - 1) / longer;
        }

        void compare(Row row, Row other) {
            for (int words = 0; words <= row.length; words++) {
                for (int others = 0; others <= other.length; others++) {
                    boolean isSame = row.at(words - 1) == other.at(others - 1);
                    put(words, others, least(words, others, isSame));
                }
            }
        }

        private int least(int words, int others, boolean isSame) {
            if (words == 0 || others == 0) {
                return words + others;
            }
            int byChange = between(words - 1, others - 1) + (isSame ? 0 : 1);
            int byTaking = between(words - 1, others) + 1;
            int byPutting = between(words, others - 1) + 1;
            return Math.min(byChange, Math.min(byTaking, byPutting));
        }

        /** The edits between the first words of one row and the first of the other, as compared last. */
        int between(int words, int others) {
            int slot = words * SIDE + others;
            return slot >= 0 && slot < table.length ? table[slot] : 0;
        }

        /** Which last word is to be taken away where both differ; the first of the least wins. */
        int skipBehind(int words, int others) {
            int withoutOwn = between(words - 1, others);
            int withoutOther = between(words, others - 1);
            int withoutBoth = between(words - 1, others - 1);
            if (withoutOwn <= withoutOther && withoutOwn <= withoutBoth) {
                return SKIP_OWN;
            }
            return withoutOther <= withoutBoth ? SKIP_OTHER : SKIP_BOTH;
        }

        private void put(int words, int others, int edits) {
            int slot = words * SIDE + others;
            if (slot >= 0 && slot < table.length) {
                table[slot] = edits;
            }
        }
    }

    /** The sold sentences, an index of their words, and the list of those that are due. */
    private static final class Memory {
        /** Every sentence, where sentences are told by one bit each. */
        private static final long ALL = -1L;

        private final Sentence[] sentences = new Sentence[MOST_SOLD];
        /** For each word the sentences that have it, one bit each. */
        private final long[] having = new long[WORDS];
        private final Line dueList = new Line();
        private final Edits edits = new Edits();
        private int count = 0;

        Sentence sentenceAt(int number) {
            return number >= 0 && number < sentences.length ? sentences[number] : null;
        }

        int keep(Sentence sentence) {
            int number = count;
            if (number < 0 || number >= sentences.length) {
                return NONE;
            }
            sentences[number] = sentence;
            for (int place = 0; place < sentence.words.length; place++) {
                int word = sentence.words.at(place);
                if (word >= 0 && word < having.length) {
                    having[word] |= 1L << number;
                }
            }
            count = number + 1;
            return number;
        }

        /** Lists anew, and keeps the places of those that stay due: only the new ones go to the end. */
        void listDue(Rulings rulings) {
            for (int place = dueList.count - 1; place >= 0; place--) {
                Sentence sentence = sentenceAt(dueList.at(place));
                if (sentence == null || sentence.firstAstray(rulings) == NONE) {
                    dueList.removeAt(place);
                }
            }
            for (int number = 0; number < count; number++) {
                Sentence sentence = sentenceAt(number);
                if (sentence != null && sentence.firstAstray(rulings) != NONE && !dueList.holds(number)) {
                    dueList.addLast(number);
                }
            }
        }

        /** A likeness above 0 needs a word in common, so no match is missed by looking only at these. */
        long sharingWith(Row row) {
            long sharing = 0L;
            for (int place = 0; place < row.length; place++) {
                int word = row.at(place);
                if (word >= 0 && word < having.length) {
                    sharing |= having[word];
                }
            }
            return sharing;
        }

        int bestAmong(long among, Row row, int client, int least) {
            int best = NONE;
            int bestLikeness = 0;
            boolean bestIsOwn = false;
            for (int number = 0; number < count; number++) {
                Sentence sentence = sentenceAt(number);
                if (sentence == null || (among >> number & 1L) == 0L || dueList.holds(number)) {
                    continue;
                }
                int likeness = edits.likenessOf(row, sentence.words);
                boolean isOwn = sentence.client == client;
                boolean isTieWon = likeness == bestLikeness && (isOwn || !bestIsOwn);
                if (likeness >= least && (likeness > bestLikeness || isTieWon)) {
                    best = number;
                    bestLikeness = likeness;
                    bestIsOwn = isOwn;
                }
            }
            return best;
        }

        int shareOf(Row row, int match) {
            Sentence sentence = sentenceAt(match);
            if (sentence == null) {
                return 100;
            }
            int likeness = edits.likenessOf(row, sentence.words);
            if (likeness >= Edits.FULL_LIKENESS) {
                return 20;
            }
            if (likeness >= 85) {
                return 50;
            }
            return likeness >= 70 ? 70 : 90;
        }

        /** Pairs the words with those of the match, from the ends on, and lends what the match's became. */
        void lendTo(Sentence sentence, int match) {
            Sentence lender = sentenceAt(match);
            if (lender == null) {
                return;
            }
            edits.compare(sentence.words, lender.words);
            int left = sentence.words.length;
            int lenderLeft = lender.words.length;
            for (int step = 0; step < 2 * MOST_WORDS && left > 0 && lenderLeft > 0; step++) {
                if (sentence.words.at(left - 1) == lender.words.at(lenderLeft - 1)) {
                    left--;
                    lenderLeft--;
                    sentence.became.put(left, lender.became.at(lenderLeft));
                } else {
                    int skip = edits.skipBehind(left, lenderLeft);
                    left -= skip == Edits.SKIP_OTHER ? 0 : 1;
                    lenderLeft -= skip == Edits.SKIP_OWN ? 0 : 1;
                }
            }
        }
    }
}
