import java.util.ArrayDeque;
import java.util.ArrayList;
import java.util.Collections;
import java.util.List;
import java.util.function.IntSupplier;

/** Long runs of mixed calls, each answered as a plain model of the document answers it. */
public final class ModelTest {
    private static final int RUNS = 3000;
    private static final int MIXED_CALLS = 400;

    /** A fixed row of numbers, so that every run of this test is the same. */
    private static long seed = 20261118L;

    private TermGate gate = new TermGate();
    private Model model = new Model();
    private final StringBuilder calls = new StringBuilder();
    private int words;
    private int becomes;
    private int longest;

    public static void main(String[] args) {
        for (int run = 0; run < RUNS && Check.isAllRight(); run++) {
            new ModelTest().run(run);
        }
        Check.end();
    }

    private static int below(int bound) {
        seed = seed * 6364136223846793005L + 1442695040888963407L;
        return (int) ((seed >>> 33) % bound);
    }

    private void run(int run) {
        words = 1 + below(run % 5 == 0 ? 50 : 6);
        becomes = 2 + below(run % 7 == 0 ? 98 : 4);
        longest = 1 + below(8);
        for (int call = 0; call < MIXED_CALLS && Check.isAllRight(); call++) {
            mixedCall();
        }
        sweep();
        if (!Check.isAllRight()) {
            System.out.println("in run " + run + ", behind the calls" + calls);
        }
    }

    private void compare(String call, IntSupplier real, IntSupplier modelled) {
        calls.append(' ').append(call);
        Check.same(call, outcomeOf(real), outcomeOf(modelled));
    }

    private static String outcomeOf(IntSupplier call) {
        try {
            return Integer.toString(call.getAsInt());
        } catch (RuntimeException e) {
            return e.getClass().getSimpleName();
        }
    }

    private static int bit(boolean is) {
        return is ? 1 : 0;
    }

    /** Mostly a number below the bound, at times one of its edges' neighbours or a far one. */
    private static int mostlyBelow(int bound) {
        int dice = below(60);
        if (dice == 0) {
            return -1;
        }
        if (dice == 1) {
            return bound;
        }
        return dice == 2 ? (below(2) == 0 ? Integer.MIN_VALUE : Integer.MAX_VALUE) : below(bound);
    }

    private void mixedCall() {
        int dice = below(100);
        if (dice < 22) {
            draftCall();
        } else if (dice < 66) {
            orderCall();
        } else if (dice < 78) {
            rulingCall();
        } else {
            questionCall();
        }
    }

    private void draftCall() {
        int client = mostlyBelow(4);
        boolean isRush = below(3) == 0;
        int dice = below(10);
        if (dice < 5 && model.draft.size() < longest || below(40) == 0) {
            int word = below(30) == 0 ? mostlyBelow(50) : below(words);
            compare("word(" + word + ")", () -> gate.word(word), () -> model.word(word));
        } else if (dice < 7) {
            compare("clear()", () -> gate.clear(), () -> model.clear());
        } else {
            compare("order(" + client + "," + isRush + ")",
                () -> gate.order(client, isRush), () -> model.order(client, isRush));
        }
    }

    private void orderCall() {
        int translator = mostlyBelow(below(2) == 0 ? 4 : 1);
        int dice = below(20);
        if (dice < 4) {
            compare("take(" + translator + ")", () -> gate.take(translator), () -> model.take(translator));
        } else if (dice == 4) {
            compare("giveBack(" + translator + ")", () -> gate.giveBack(translator), () -> model.giveBack(translator));
        } else if (dice < 9) {
            compare("deliver(" + translator + ")", () -> gate.deliver(translator), () -> model.deliver(translator));
        } else {
            translateCall(translator);
        }
    }

    private void translateCall(int translator) {
        int place = below(4) == 0 ? mostlyBelow(8) : model.placeToWorkAt(translator);
        int ruled = model.rulingAt(translator, place);
        int becoming = ruled >= 0 && below(3) > 0 ? ruled : below(30) == 0 ? mostlyBelow(100) : below(becomes);
        compare("translate(" + translator + "," + place + "," + becoming + ")",
            () -> gate.translate(translator, place, becoming), () -> model.translate(translator, place, becoming));
    }

    private void rulingCall() {
        int dice = below(10);
        int sentence = model.due.isEmpty() ? mostlyBelow(40) : model.due.get(below(model.due.size()));
        if (dice < 3) {
            int any = below(3) == 0 ? mostlyBelow(40) : sentence;
            compare("mend(" + any + ")", () -> gate.mend(any), () -> model.mend(any));
        } else if (dice == 3) {
            int least = 1 + below(below(2) == 0 ? 100 : 40);
            int price = mostlyBelow(101);
            int rate = mostlyBelow(101);
            compare("setPrices(" + least + "," + price + "," + rate + ")",
                () -> { gate.setPrices(least, price, rate); return 0; }, () -> model.setPrices(least, price, rate));
        } else {
            int who = mostlyBelow(3);
            int client = mostlyBelow(below(2) == 0 ? 4 : 2);
            int word = below(30) == 0 ? mostlyBelow(50) : below(words);
            int becoming = below(30) == 0 ? mostlyBelow(100) : below(Math.min(becomes, 4)) - bit(below(4) == 0);
            compare("say(" + who + "," + client + "," + word + "," + becoming + ")",
                () -> gate.say(who, client, word, becoming), () -> model.say(who, client, word, becoming));
        }
    }

    private void questionCall() {
        int who = mostlyBelow(4);
        int place = mostlyBelow(8);
        int number = mostlyBelow(below(2) == 0 ? 60 : Math.max(1, model.sold.size()));
        boolean isRush = below(2) == 0;
        switch (below(16)) {
            case 0 -> compare("likeness(" + number + ")", () -> gate.likeness(number), () -> model.likeness(number));
            case 1 -> compare("best(" + who + ")", () -> gate.best(who), () -> model.best(who));
            case 2 -> compare("bestByAll(" + who + ")", () -> gate.bestByAll(who), () -> model.best(who));
            case 3 -> compare("cost(" + who + "," + isRush + ")",
                () -> gate.cost(who, isRush), () -> model.cost(who, isRush));
            case 4 -> compare("why(" + who + ")", () -> gate.why(who), () -> model.why(who));
            case 5 -> compare("wherefore(" + who + ")", () -> gate.wherefore(who), () -> model.wherefore(who));
            case 6 -> compare("match(" + who + ")", () -> gate.match(who), () -> model.match(who));
            case 7, 8 -> compare("became(" + who + "," + place + ")",
                () -> gate.became(who, place), () -> model.became(who, place));
            case 9 -> compare("orderAt(" + number + ")", () -> gate.orderAt(number), () -> model.orderAt(number));
            case 10 -> compare("ruling(" + who + "," + place + ")",
                () -> gate.ruling(who, place), () -> model.ruling(who, place));
            case 11 -> compare("wordOf(" + number + "," + place + ")",
                () -> gate.wordOf(number, place), () -> model.wordOf(number, place));
            case 12 -> compare("becameOf(" + number + "," + place + ")",
                () -> gate.becameOf(number, place), () -> model.becameOf(number, place));
            case 13 -> compare("clientOf(" + number + ")", () -> gate.clientOf(number), () -> model.clientOf(number));
            case 14 -> compare("dueAt(" + number + ")", () -> gate.dueAt(number), () -> model.dueAt(number));
            default -> compare("purse()", () -> gate.purse(), () -> model.purse());
        }
    }

    /** Asks for all that the desks, the list and the purses hold: at most 111 calls, so that all stay under 512. */
    private void sweep() {
        for (int number = 0; number <= model.due.size(); number++) {
            int at = number;
            compare("dueAt(" + at + ")", () -> gate.dueAt(at), () -> model.dueAt(at));
        }
        for (int number = 0; number < model.sold.size(); number++) {
            int at = number;
            compare("isDue(" + at + ")", () -> bit(gate.isDue(at)), () -> bit(model.due.contains(at)));
        }
        for (int number = 0; number < 4; number++) {
            int who = number;
            compare("paid(" + who + ")", () -> gate.paid(who), () -> model.paidBy(who));
            compare("earned(" + who + ")", () -> gate.earned(who), () -> model.earnedBy(who));
            compare("best(" + who + ")", () -> gate.best(who), () -> model.best(who));
            compare("bestByAll(" + who + ")", () -> gate.bestByAll(who), () -> model.best(who));
        }
        compare("due()", () -> gate.due(), () -> model.due.size());
        compare("sold()", () -> gate.sold(), () -> model.sold.size());
        compare("purse()", () -> gate.purse(), () -> model.purse());
        compare("waiting(true)", () -> gate.waiting(true), () -> model.rush.size());
        compare("waiting(false)", () -> gate.waiting(false), () -> model.other.size());
    }

    /** A job from its order on: with a number as a sold sentence in the end. */
    private static final class Job {
        private final int number;
        private final int client;
        private final boolean isRush;
        private final List<Integer> words;
        private final List<Integer> became = new ArrayList<>();
        /** For each place whether its ruling has changed since the sentence was sold. */
        private final List<Boolean> changed = new ArrayList<>();
        private int state = -1;
        private int match = -1;
        private int cost;
        private int pay;

        Job(int number, int client, boolean isRush, List<Integer> words) {
            this.number = number;
            this.client = client;
            this.isRush = isRush;
            this.words = words;
            forget();
        }

        void forget() {
            became.clear();
            became.addAll(Collections.nCopies(words.size(), -1));
            changed.clear();
            changed.addAll(Collections.nCopies(words.size(), false));
        }
    }

    /** The document, told anew in the plainest way. */
    private static final class Model {
        private final List<Integer> draft = new ArrayList<>();
        private final List<Job> orders = new ArrayList<>();
        private final List<Job> sold = new ArrayList<>();
        private final List<Integer> due = new ArrayList<>();
        private final ArrayDeque<Job> rush = new ArrayDeque<>();
        private final ArrayDeque<Job> other = new ArrayDeque<>();
        private final Job[] hands = new Job[4];
        private final int[][][] says = new int[4][50][3];
        private final int[] paid = new int[4];
        private final int[] earned = new int[4];
        private int least = 50;
        private int price = 10;
        private int rate = 6;

        Model() {
            for (int[][] ofClient : says) {
                for (int[] ofWord : ofClient) {
                    java.util.Arrays.fill(ofWord, -1);
                }
            }
        }

        private static void argument(int value, int from, int to) {
            if (value < from || value > to) {
                throw new IllegalArgumentException();
            }
        }

        private static void state(boolean is) {
            if (!is) {
                throw new IllegalStateException();
            }
        }

        private static void place(int at, int size) {
            if (at < 0 || at >= size) {
                throw new IndexOutOfBoundsException();
            }
        }

        int word(int word) {
            argument(word, 0, 49);
            state(draft.size() < 8);
            draft.add(word);
            return draft.size();
        }

        int clear() {
            int had = draft.size();
            draft.clear();
            return had;
        }

        /** Edits between two rows, counted from their beginnings on. */
        private static int edits(List<Integer> a, List<Integer> b) {
            int[][] rest = new int[a.size() + 1][b.size() + 1];
            for (int i = a.size(); i >= 0; i--) {
                for (int j = b.size(); j >= 0; j--) {
                    if (i == a.size() || j == b.size()) {
                        rest[i][j] = a.size() - i + b.size() - j;
                    } else if (a.get(i).equals(b.get(j))) {
                        rest[i][j] = rest[i + 1][j + 1];
                    } else {
                        rest[i][j] = 1 + Math.min(rest[i + 1][j + 1], Math.min(rest[i + 1][j], rest[i][j + 1]));
                    }
                }
            }
            return rest[0][0];
        }

        private static int like(List<Integer> a, List<Integer> b) {
            return 100 - (int) Math.ceil(100.0 * edits(a, b) / Math.max(a.size(), b.size()));
        }

        int likeness(int sentence) {
            place(sentence, sold.size());
            state(!draft.isEmpty());
            return like(draft, sold.get(sentence).words);
        }

        private int bestOf(int client, List<Integer> row) {
            List<Integer> matches = new ArrayList<>();
            for (int number = 0; number < sold.size(); number++) {
                if (!due.contains(number) && like(row, sold.get(number).words) >= least) {
                    matches.add(number);
                }
            }
            matches.sort((a, b) -> {
                int byLikeness = like(row, sold.get(b).words) - like(row, sold.get(a).words);
                int byClient = bit(sold.get(b).client == client) - bit(sold.get(a).client == client);
                return byLikeness != 0 ? byLikeness : byClient != 0 ? byClient : b - a;
            });
            return matches.isEmpty() ? -1 : matches.get(0);
        }

        int best(int client) {
            argument(client, 0, 3);
            state(!draft.isEmpty());
            return bestOf(client, draft);
        }

        private int share(List<Integer> row, int match) {
            int likeness = match < 0 ? 0 : like(row, sold.get(match).words);
            int shareOfMatch = likeness == 100 ? 20 : likeness >= 85 ? 50 : likeness >= 70 ? 70 : 90;
            return match < 0 ? 100 : shareOfMatch;
        }

        private int costOf(List<Integer> row, int match, boolean isRush) {
            int plain = row.size() * price * share(row, match) / 100;
            return plain + (isRush ? plain / 2 : 0);
        }

        int cost(int client, boolean isRush) {
            return costOf(draft, best(client), isRush);
        }

        int order(int client, boolean isRush) {
            argument(client, 0, 3);
            state(!draft.isEmpty() && orders.size() < 60);
            Job job = new Job(orders.size(), client, isRush, List.copyOf(draft));
            orders.add(job);
            (isRush ? rush : other).addLast(job);
            return job.number;
        }

        int take(int translator) {
            argument(translator, 0, 3);
            state(hands[translator] == null);
            Job job = rush.isEmpty() ? other.pollFirst() : rush.pollFirst();
            if (job == null) {
                return -1;
            }
            hands[translator] = job;
            job.state = translator;
            job.match = bestOf(job.client, job.words);
            job.cost = costOf(job.words, job.match, job.isRush);
            job.pay = job.words.size() * rate * share(job.words, job.match) / 100;
            if (job.match >= 0) {
                lend(job, sold.get(job.match));
            }
            return job.number;
        }

        private static void lend(Job job, Job from) {
            List<Integer> row = job.words;
            List<Integer> match = from.words;
            while (!row.isEmpty() && !match.isEmpty()) {
                int i = row.size() - 1;
                int j = match.size() - 1;
                List<Integer> shortRow = row.subList(0, i);
                List<Integer> shortMatch = match.subList(0, j);
                if (row.get(i).equals(match.get(j))) {
                    job.became.set(i, from.became.get(j));
                    row = shortRow;
                    match = shortMatch;
                    continue;
                }
                int[] behind = {edits(shortRow, match), edits(row, shortMatch), edits(shortRow, shortMatch)};
                int fewest = Math.min(behind[0], Math.min(behind[1], behind[2]));
                if (behind[0] == fewest) {
                    row = shortRow;
                } else if (behind[1] == fewest) {
                    match = shortMatch;
                } else {
                    row = shortRow;
                    match = shortMatch;
                }
            }
        }

        private Job held(int translator) {
            argument(translator, 0, 3);
            state(hands[translator] != null);
            return hands[translator];
        }

        int giveBack(int translator) {
            Job job = held(translator);
            hands[translator] = null;
            job.state = -1;
            job.match = -1;
            job.forget();
            (job.isRush ? rush : other).addFirst(job);
            return job.number;
        }

        int translate(int translator, int at, int becomes) {
            argument(translator, 0, 3);
            argument(becomes, 0, 99);
            Job job = held(translator);
            place(at, job.words.size());
            job.became.set(at, becomes);
            return Collections.frequency(job.became, -1);
        }

        private boolean isWrong(Job job, int at) {
            int ruling = rulingOf(job.client, job.words.get(at));
            return ruling >= 0 && ruling != job.became.get(at);
        }

        int wherefore(int translator) {
            Job job = held(translator);
            if (job.became.contains(-1)) {
                return job.became.indexOf(-1);
            }
            for (int at = 0; at < job.words.size() && !job.isRush; at++) {
                if (isWrong(job, at)) {
                    return at;
                }
            }
            return -1;
        }

        int why(int translator) {
            int at = wherefore(translator);
            return at < 0 ? 0 : held(translator).became.get(at) < 0 ? 1 : 2;
        }

        int deliver(int translator) {
            Job job = held(translator);
            state(why(translator) == 0 && sold.size() < 40);
            hands[translator] = null;
            job.state = -2;
            sold.add(job);
            paid[job.client] += job.cost;
            earned[translator] += job.pay;
            relist();
            return sold.size() - 1;
        }

        int became(int translator, int at) {
            Job job = held(translator);
            place(at, job.words.size());
            return job.became.get(at);
        }

        int match(int translator) {
            return held(translator).match;
        }

        int orderAt(int order) {
            place(order, orders.size());
            return orders.get(order).state;
        }

        private boolean isDue(int number) {
            Job job = sold.get(number);
            for (int at = 0; at < job.words.size(); at++) {
                if (isWrong(job, at)) {
                    return true;
                }
            }
            return false;
        }

        private void relist() {
            due.removeIf(number -> !isDue(number));
            for (int number = 0; number < sold.size(); number++) {
                if (isDue(number) && !due.contains(number)) {
                    due.add(number);
                }
            }
        }

        private int rulingOf(int client, int word) {
            for (int becomes = 0; becomes < 100; becomes++) {
                int voices = 0;
                for (int said : says[client][word]) {
                    voices += bit(said == becomes);
                }
                if (voices >= 2) {
                    return becomes;
                }
            }
            return -1;
        }

        int say(int terminologist, int client, int word, int becomes) {
            argument(terminologist, 0, 2);
            argument(client, 0, 3);
            argument(word, 0, 49);
            argument(becomes, -1, 99);
            int before = rulingOf(client, word);
            says[client][word][terminologist] = becomes;
            boolean isOther = before != rulingOf(client, word);
            for (Job job : sold) {
                for (int at = 0; at < job.words.size(); at++) {
                    if (isOther && job.client == client && job.words.get(at) == word) {
                        job.changed.set(at, true);
                    }
                }
            }
            relist();
            return due.size();
        }

        int ruling(int client, int word) {
            argument(client, 0, 3);
            argument(word, 0, 49);
            return rulingOf(client, word);
        }

        int clientOf(int sentence) {
            place(sentence, sold.size());
            return sold.get(sentence).client;
        }

        int wordOf(int sentence, int at) {
            place(sentence, sold.size());
            place(at, sold.get(sentence).words.size());
            return sold.get(sentence).words.get(at);
        }

        int becameOf(int sentence, int at) {
            wordOf(sentence, at);
            return sold.get(sentence).became.get(at);
        }

        int dueAt(int at) {
            place(at, due.size());
            return due.get(at);
        }

        int mend(int sentence) {
            place(sentence, sold.size());
            state(isDue(sentence));
            Job job = sold.get(sentence);
            int mended = 0;
            for (int at = 0; at < job.words.size(); at++) {
                if (isWrong(job, at)) {
                    job.became.set(at, rulingOf(job.client, job.words.get(at)));
                    paid[job.client] += job.changed.get(at) ? 3 : -5;
                    mended++;
                }
            }
            relist();
            return mended;
        }

        int setPrices(int newLeast, int newPrice, int newRate) {
            argument(newLeast, 1, 100);
            argument(newPrice, 0, 100);
            argument(newRate, 0, 100);
            least = newLeast;
            price = newPrice;
            rate = newRate;
            return 0;
        }

        int paidBy(int client) {
            return paid[client];
        }

        int earnedBy(int translator) {
            return earned[translator];
        }

        int purse() {
            int sum = 0;
            for (int who = 0; who < 4; who++) {
                sum += paid[who] - earned[who];
            }
            return sum;
        }

        /** Where the next translation would help most, 0 if it helps nowhere. */
        int placeToWorkAt(int translator) {
            boolean isHeld = translator >= 0 && translator < 4 && hands[translator] != null;
            return isHeld ? Math.max(0, wherefore(translator)) : 0;
        }

        int rulingAt(int translator, int at) {
            boolean isHeld = translator >= 0 && translator < 4 && hands[translator] != null;
            boolean isThere = isHeld && at >= 0 && at < hands[translator].words.size();
            return isThere ? rulingOf(hands[translator].client, hands[translator].words.get(at)) : -1;
        }
    }
}
