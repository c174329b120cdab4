import java.util.Arrays;
import java.util.NoSuchElementException;

/** Lays a trace of calls on six ways to keep a heap of keys and tells what each of them costs. */
public final class WhichShelf {
    public static final int NONE = -1;

    private static final int MOST_CALLS = 200;
    private static final int MOST_DRAWN = 100;
    private static final int KINDS = 8;
    private static final int KEYS = 64;
    private static final int MOST_MASK = 255;
    private static final int MOST_PRICE = 1000;

    private static final int PUT = 0;
    private static final int ASK = 1;
    private static final int STRIKE = 2;
    private static final int WALK = 3;
    private static final int LEAST = 4;
    private static final int NEXT = 5;
    private static final int FIRST = 6;
    private static final int MANY = 7;

    private static final int SHELVES = 6;
    private static final int ALL_SHELVES = 0b111111;
    private static final int WALKING_UP = 0b101010;
    private static final int WALKING_AS_CAME = 0b000001;
    private static final int ANSWERING_FIRST = 0b000001;

    private final Row row = new Row();
    private final Shelf[] shelves = {row, new Sorted(), new Hash(), new Tree(), new Heap(), new Bits()};
    private final int[] kinds = new int[MOST_CALLS];
    private final int[] keys = new int[MOST_CALLS];
    private final int[] answers = new int[MOST_CALLS];
    private final int[] sizes = new int[MOST_CALLS];
    private int calls = 0;

    private boolean walksGoUp = false;
    private boolean walksGoAsCame = false;
    private int fee = 10;
    private int each = 2;

    private final Plan plan = new Plan();
    private boolean planned = false;

    public WhichShelf() {
    }

    public int call(int kind, int key) {
        if (kind < 0 || kind >= KINDS || !isKey(key) || calls >= MOST_CALLS) {
            return NONE;
        }
        lay(kind, key);
        return calls - 1;
    }

    public int draw(int seed, int n, int keys, int mask) {
        if (n < 0 || n > MOST_DRAWN || keys < 1 || keys > KEYS || mask < 0 || mask > MOST_MASK
                || n > MOST_CALLS - calls) {
            return NONE;
        }
        int r = seed;
        for (int i = 0; i < n; i++) {
            r = drawnAfter(r);
            int kind = (r >>> 16) % KINDS;
            r = drawnAfter(r);
            lay((mask >> kind & 1) == 1 ? kind : PUT, (r >>> 16) % keys);
        }
        return calls;
    }

    public int drop(int n) {
        if (n < 0 || n > calls) {
            return NONE;
        }
        if (n > 0) {
            calls -= n;
            planned = false;
            for (Shelf shelf : shelves) {
                layAnew(shelf);
            }
        }
        return calls;
    }

    public boolean law(int law, boolean is) {
        if (law != 1 && law != 2) {
            return false;
        }
        if (law == 1) {
            walksGoUp = is;
        } else {
            walksGoAsCame = is;
        }
        planned = false;
        return true;
    }

    public int set(int what, int v) {
        if (what < 0 || what > 1 || v < 0 || v > MOST_PRICE) {
            return NONE;
        }
        int before = what == 0 ? fee : each;
        if (what == 0) {
            fee = v;
        } else {
            each = v;
        }
        planned = false;
        return before;
    }

    public int told(int i, int what) {
        if (!isCall(i)) {
            return NONE;
        }
        switch (what) {
            case 0:
                return kinds[i];
            case 1:
                return keys[i];
            case 2:
                return sizes[i];
            default:
                return NONE;
        }
    }

    public int answer(int i) throws NoSuchElementException {
        if (!isCall(i)) {
            throw new NoSuchElementException("no such call");
        }
        return answers[i];
    }

    public int cost(int shelf, int i) {
        return isShelf(shelf) && isCall(i) ? shelves[shelf].steps[i] : NONE;
    }

    public int key(int shelf, int i) {
        return isShelf(shelf) && i >= 0 && i < row.size ? shelves[shelf].keyAt(i) : NONE;
    }

    public int sum(int shelf, int what) {
        if (!isShelf(shelf)) {
            return NONE;
        }
        Shelf on = shelves[shelf];
        switch (what) {
            case 0:
                return on.stepsSince(0);
            case 1:
                return on.worstSteps();
            case 2:
                return on.worstCall();
            case 3:
                return on.greatestRoom();
            case 4:
                return isIn(offered(), shelf) ? 1 : 0;
            case 5:
                return on.room();
            default:
                return NONE;
        }
    }

    public int best(int worst, int room) {
        int within = 0;
        for (int shelf = 0; shelf < SHELVES; shelf++) {
            if (shelves[shelf].isWithin(worst, room)) {
                within |= 1 << shelf;
            }
        }
        return cheapestSince(0, offered() & within);
    }

    public int drift(int shelf, int n, int what) {
        if (!isShelf(shelf) || n < 1 || n > calls || what < 0 || what > 1) {
            return NONE;
        }
        int from = calls - n;
        int cheapest = cheapestSince(from, offered());
        if (cheapest == NONE || what == 0) {
            return cheapest;
        }
        int had = shelves[shelf].stepsSince(from);
        int saved = had - shelves[cheapest].stepsSince(from);
        return had == 0 ? 0 : saved * 100 / had;
    }

    public int stages() {
        if (offered() == 0) {
            return NONE;
        }
        makePlan();
        return plan.leastSum();
    }

    public int stage(int i) {
        if (!isCall(i) || offered() == 0) {
            return NONE;
        }
        makePlan();
        return plan.chosen[i];
    }

    public int count(int what) {
        switch (what) {
            case 0:
                return calls;
            case 1:
                return fee;
            case 2:
                return each;
            case 3:
                makePlan();
                return plan.moves();
            case 4:
                return (walksGoUp ? 2 : 0) + (walksGoAsCame ? 4 : 0) + (asksFirst() ? 8 : 0);
            default:
                return NONE;
        }
    }

    private static boolean isKey(int key) {
        return key >= 0 && key < KEYS;
    }

    private static boolean isShelf(int shelf) {
        return shelf >= 0 && shelf < SHELVES;
    }

    private static boolean isIn(int some, int shelf) {
        return (some >> shelf & 1) == 1;
    }

    private boolean isCall(int i) {
        return i >= 0 && i < calls;
    }

    private static int drawnAfter(int r) {
        return r * 1103515245 + 12345;
    }

    private void lay(int kind, int key) {
        if (calls >= MOST_CALLS) {
            return;
        }
        kinds[calls] = kind;
        keys[calls] = key;
        answers[calls] = row.answerTo(kind, key);
        for (Shelf shelf : shelves) {
            shelf.take(kind, key);
        }
        sizes[calls] = row.size;
        calls++;
        planned = false;
    }

    // What a shelf was some calls ago can't be told from what it is now, so it is stepped from the start.
    private void layAnew(Shelf shelf) {
        shelf.restart();
        for (int i = 0; i < calls; i++) {
            shelf.take(kinds[i], keys[i]);
        }
    }

    private boolean asksFirst() {
        for (int i = 0; i < calls; i++) {
            if (kinds[i] == FIRST) {
                return true;
            }
        }
        return false;
    }

    private int offered() {
        return ALL_SHELVES
                & (walksGoUp ? WALKING_UP : ALL_SHELVES)
                & (walksGoAsCame ? WALKING_AS_CAME : ALL_SHELVES)
                & (asksFirst() ? ANSWERING_FIRST : ALL_SHELVES);
    }

    private int cheapestSince(int from, int some) {
        int cheapest = NONE;
        int fewest = 0;
        for (int shelf = 0; shelf < SHELVES; shelf++) {
            if (isIn(some, shelf)) {
                int steps = shelves[shelf].stepsSince(from);
                if (cheapest == NONE || steps < fewest) {
                    cheapest = shelf;
                    fewest = steps;
                }
            }
        }
        return cheapest;
    }

    private void makePlan() {
        if (!planned) {
            plan.open(offered(), calls, fee, each);
            plan.weigh(shelves, sizes);
            plan.choose(sizes);
            planned = true;
        }
    }

    /** One way to keep the keys, with the steps of each call laid on it and the room behind each. */
    private abstract static class Shelf {
        final int[] steps = new int[MOST_CALLS];
        final int[] rooms = new int[MOST_CALLS];
        int taken = 0;

        /** Carries a call out: its steps. */
        abstract int step(int kind, int key);

        abstract int room();

        /** The key at a place from 0 on, below how many there are; NONE elsewhere. */
        abstract int keyAt(int place);

        abstract void clear();

        final void take(int kind, int key) {
            if (taken < MOST_CALLS) {
                steps[taken] = step(kind, key);
                rooms[taken] = room();
                taken++;
            }
        }

        final void restart() {
            taken = 0;
            clear();
        }

        final int stepsSince(int from) {
            int all = 0;
            for (int i = Math.max(from, 0); i < taken; i++) {
                all += steps[i];
            }
            return all;
        }

        final int worstCall() {
            int worst = NONE;
            for (int i = 0; i < taken; i++) {
                if (worst == NONE || steps[i] > steps[worst]) {
                    worst = i;
                }
            }
            return worst;
        }

        final int worstSteps() {
            int worst = worstCall();
            return worst == NONE ? 0 : steps[worst];
        }

        final int greatestRoom() {
            int greatest = 0;
            for (int i = 0; i < taken; i++) {
                greatest = Math.max(greatest, rooms[i]);
            }
            return greatest;
        }

        // Without calls no call is too dear, even for a bound below 0.
        final boolean isWithin(int worst, int room) {
            return (taken == 0 || worstSteps() <= worst) && greatestRoom() <= room;
        }
    }

    /** A shelf that keeps its keys in one row and grows by doubling. */
    private abstract static class Lined extends Shelf {
        final int[] line = new int[MOST_CALLS];
        final int firstWidth;
        int width;
        int size = 0;

        Lined(int firstWidth) {
            this.firstWidth = firstWidth;
            this.width = firstWidth;
        }

        int room() {
            return width;
        }

        final int keyAt(int place) {
            return place >= 0 && place < size ? line[place] : NONE;
        }

        final void clear() {
            width = firstWidth;
            size = 0;
        }

        final int growIfFull() {
            if (size != width) {
                return 0;
            }
            width *= 2;
            return size;
        }

        final int placeOf(int key) {
            for (int i = 0; i < size; i++) {
                if (line[i] == key) {
                    return i;
                }
            }
            return NONE;
        }

        final int stepsTo(int place) {
            return place == NONE ? size : place + 1;
        }

        final void insert(int place, int key) {
            if (place >= 0 && place <= size && size < MOST_CALLS) {
                System.arraycopy(line, place, line, place + 1, size - place);
                line[place] = key;
                size++;
            }
        }

        final int append(int key) {
            int grown = growIfFull();
            insert(size, key);
            return grown + 1;
        }

        final void remove(int place) {
            if (place >= 0 && place < size) {
                System.arraycopy(line, place + 1, line, place, size - place - 1);
                size--;
            }
        }
    }

    /** ROW: the keys as they came. It tells the answers too, as it alone knows which came first. */
    private static final class Row extends Lined {
        Row() {
            super(4);
        }

        int step(int kind, int key) {
            switch (kind) {
                case PUT:
                    return append(key);
                case ASK:
                    return stepsTo(placeOf(key));
                case STRIKE:
                    return strike(key);
                case FIRST:
                    return 1;
                default:
                    return size;
            }
        }

        private int strike(int key) {
            int place = placeOf(key);
            int asked = stepsTo(place);
            if (place == NONE) {
                return asked;
            }
            remove(place);
            return asked + size - place;
        }

        /** The answer of a call that is not yet carried out. */
        int answerTo(int kind, int key) {
            switch (kind) {
                case PUT:
                    return size + 1;
                case ASK:
                case STRIKE:
                    return placeOf(key) == NONE ? 0 : 1;
                case LEAST:
                    return leastFrom(0);
                case NEXT:
                    return leastFrom(key);
                case FIRST:
                    return keyAt(0);
                case MANY:
                    return howMany(key);
                default:
                    return size;
            }
        }

        private int leastFrom(int key) {
            int least = NONE;
            for (int i = 0; i < size; i++) {
                if (line[i] >= key && (least == NONE || line[i] < least)) {
                    least = line[i];
                }
            }
            return least;
        }

        private int howMany(int key) {
            int many = 0;
            for (int i = 0; i < size; i++) {
                if (line[i] == key) {
                    many++;
                }
            }
            return many;
        }
    }

    /** SORTED: the keys ascending. */
    private static final class Sorted extends Lined {
        private int halvings = 0;

        Sorted() {
            super(4);
        }

        int step(int kind, int key) {
            switch (kind) {
                case PUT:
                    return putInOrder(key);
                case ASK:
                case NEXT:
                    return askedAt(halve(key));
                case STRIKE:
                    return strike(key);
                case LEAST:
                    return 1;
                case FIRST:
                    return 0;
                case MANY:
                    return seekBothEnds(key);
                default:
                    return size;
            }
        }

        /** Where the halving ends; its steps are left in halvings. */
        private int halve(int key) {
            int low = 0;
            int high = size;
            halvings = 0;
            while (low < high) {
                int middle = (low + high) / 2;
                halvings++;
                if (line[middle] < key) {
                    low = middle + 1;
                } else {
                    high = middle;
                }
            }
            return low;
        }

        private int putInOrder(int key) {
            int grown = growIfFull();
            int end = halve(key);
            int moved = size - end;
            insert(end, key);
            return grown + halvings + moved + 1;
        }

        private int askedAt(int end) {
            return halvings + (end < size ? 1 : 0);
        }

        private int strike(int key) {
            int end = halve(key);
            int asked = askedAt(end);
            if (keyAt(end) != key) {
                return asked;
            }
            remove(end);
            return asked + size - end;
        }

        private int seekBothEnds(int key) {
            halve(key);
            int below = halvings;
            halve(key + 1);
            return below + halvings;
        }
    }

    /** HASH: the row holds chain behind chain, each from its head on; the width is how many chains there are. */
    private static final class Hash extends Lined {
        private final int[] old = new int[MOST_CALLS];

        Hash() {
            super(8);
        }

        int room() {
            return width + 2 * size;
        }

        int step(int kind, int key) {
            switch (kind) {
                case PUT:
                    return spreadIfFull() + putAtHead(key);
                case ASK:
                    return seek(key);
                case STRIKE:
                    return strike(key);
                case FIRST:
                    return 0;
                case MANY:
                    return 1 + headOfChain(chainOf(key) + 1) - headOfChain(chainOf(key));
                default:
                    return width + size;
            }
        }

        // The width is 8 doubled some times, so a mask leaves what a division would.
        private int chainOf(int key) {
            return key & (width - 1);
        }

        /** Where a chain begins, or would begin: behind its last key the next one does. */
        private int headOfChain(int chain) {
            int place = 0;
            while (place < size && chainOf(line[place]) < chain) {
                place++;
            }
            return place;
        }

        // Like keys are all in one chain, so the first in the row is the first in the chain.
        private int seek(int key) {
            int chain = chainOf(key);
            int place = placeOf(key);
            int end = place == NONE ? headOfChain(chain + 1) : place + 1;
            return 1 + end - headOfChain(chain);
        }

        private int strike(int key) {
            int asked = seek(key);
            remove(placeOf(key));
            return asked;
        }

        private int putAtHead(int key) {
            insert(headOfChain(chainOf(key)), key);
            return 1;
        }

        private int spreadIfFull() {
            if (size != 2 * width) {
                return 0;
            }
            int moved = size;
            System.arraycopy(line, 0, old, 0, moved);
            width *= 2;
            size = 0;
            for (int i = 0; i < moved; i++) {
                putAtHead(old[i]);
            }
            return moved;
        }
    }

    /** HEAP: a row in which no key is less than the one at its parent's place. */
    private static final class Heap extends Lined {
        Heap() {
            super(4);
        }

        int step(int kind, int key) {
            switch (kind) {
                case PUT:
                    return append(key) + rise(size - 1);
                case ASK:
                    return stepsTo(placeOf(key));
                case STRIKE:
                    return strike(key);
                case LEAST:
                    return 1;
                case FIRST:
                    return 0;
                default:
                    return size;
            }
        }

        private int strike(int key) {
            int place = placeOf(key);
            int asked = stepsTo(place);
            if (place == NONE) {
                return asked;
            }
            size--;
            if (place == size) {
                return asked;
            }
            line[place] = line[size];
            int risen = rise(place);
            return asked + (risen > 0 ? risen : sink(place));
        }

        private int rise(int from) {
            int place = from;
            int moved = 0;
            while (place > 0 && line[(place - 1) / 2] > line[place]) {
                int parent = (place - 1) / 2;
                swap(place, parent);
                place = parent;
                moved++;
            }
            return moved;
        }

        private int sink(int from) {
            int place = from;
            int child = lesserChild(place);
            int moved = 0;
            while (moved < size && child != NONE && line[child] < line[place]) {
                swap(place, child);
                place = child;
                child = lesserChild(place);
                moved++;
            }
            return moved;
        }

        private int lesserChild(int place) {
            int left = 2 * place + 1;
            int right = left + 1;
            if (left >= size) {
                return NONE;
            }
            return right < size && line[right] < line[left] ? right : left;
        }

        private void swap(int one, int other) {
            int key = line[one];
            line[one] = line[other];
            line[other] = key;
        }
    }

    /** A shelf that holds each key once, with how many there are of it. */
    private abstract static class Counted extends Shelf {
        final int[] many = new int[KEYS];

        final int keyAt(int place) {
            int behind = 0;
            for (int key = 0; key < KEYS; key++) {
                behind += many[key];
                if (place >= 0 && place < behind) {
                    return key;
                }
            }
            return NONE;
        }

        void clear() {
            Arrays.fill(many, 0);
        }
    }

    /** TREE: as nodes hold unlike keys, a key is the number of its node; links are keys or NONE. */
    private static final class Tree extends Counted {
        private final int[] left = new int[KEYS];
        private final int[] right = new int[KEYS];
        private int root = NONE;
        private int nodes = 0;
        private int above = NONE;

        int room() {
            return 4 * nodes;
        }

        void clear() {
            super.clear();
            root = NONE;
            nodes = 0;
        }

        int step(int kind, int key) {
            switch (kind) {
                case PUT:
                    return putNode(key);
                case ASK:
                case NEXT:
                case MANY:
                    return seek(key);
                case STRIKE:
                    return strike(key);
                case LEAST:
                    return seekLeast();
                case FIRST:
                    return 0;
                default:
                    return nodes;
            }
        }

        /** Nodes looked at on the way to a key, or to where it would be; the one above that place is left in above. */
        private int seek(int key) {
            int node = root;
            int looked = 0;
            above = NONE;
            while (isKey(node) && node != key && looked < KEYS) {
                looked++;
                above = node;
                node = key < node ? left[node] : right[node];
            }
            return node == key ? looked + 1 : looked;
        }

        private int seekLeast() {
            int node = root;
            int looked = 0;
            while (isKey(node) && looked < KEYS) {
                looked++;
                node = left[node];
            }
            return looked;
        }

        private int putNode(int key) {
            int looked = seek(key);
            many[key]++;
            if (many[key] > 1) {
                return looked;
            }
            left[key] = NONE;
            right[key] = NONE;
            hang(key, key);
            nodes++;
            return looked + 1;
        }

        private int strike(int key) {
            int looked = seek(key);
            if (many[key] == 0) {
                return looked;
            }
            many[key]--;
            return many[key] > 0 ? looked : looked + takeOut(key);
        }

        /** Takes out the node sought last: the nodes looked at to find the one for its place. */
        private int takeOut(int key) {
            nodes--;
            if (left[key] == NONE || right[key] == NONE) {
                hang(left[key] == NONE ? right[key] : left[key], key);
                return 0;
            }
            int parent = key;
            int least = right[key];
            int looked = 1;
            while (looked < KEYS && left[least] != NONE) {
                parent = least;
                least = left[least];
                looked++;
            }
            if (parent != key) {
                left[parent] = right[least];
                right[least] = right[key];
            }
            left[least] = left[key];
            hang(least, key);
            return looked;
        }

        /** Puts a node, or none, at the place of the key sought last. */
        private void hang(int node, int key) {
            if (above == NONE) {
                root = node;
            } else if (key < above) {
                left[above] = node;
            } else {
                right[above] = node;
            }
        }
    }

    /** BITS: a count of each key. */
    private static final class Bits extends Counted {
        int room() {
            return KEYS;
        }

        int step(int kind, int key) {
            switch (kind) {
                case PUT:
                    many[key]++;
                    return 1;
                case STRIKE:
                    many[key] = Math.max(many[key] - 1, 0);
                    return 1;
                case WALK:
                    return KEYS;
                case LEAST:
                    return lookFrom(0);
                case NEXT:
                    return lookFrom(key);
                case FIRST:
                    return 0;
                default:
                    return 1;
            }
        }

        private int lookFrom(int key) {
            int at = key;
            while (at < KEYS - 1 && many[at] == 0) {
                at++;
            }
            return at - key + 1;
        }
    }

    /** STAGES: weighed from the last call back, then chosen from the first call on. */
    private static final class Plan {
        // More than the moves of any plan, so that in a weight they tell apart only equal sums.
        private static final int STEP = 256;

        final int[] chosen = new int[MOST_CALLS];
        private final int[][] weights = new int[SHELVES][MOST_CALLS];
        private int some = 0;
        private int calls = 0;
        private int fee = 0;
        private int each = 0;
        private int weight = 0;

        void open(int some, int calls, int fee, int each) {
            this.some = some;
            this.calls = calls;
            this.fee = fee;
            this.each = each;
        }

        int leastSum() {
            return weight / STEP;
        }

        int moves() {
            return weight % STEP;
        }

        /** The weight of a shelf at a call is that of the best way from there to the end. */
        void weigh(Shelf[] shelves, int[] sizes) {
            for (int i = calls - 1; i >= 0; i--) {
                for (int shelf = 0; shelf < SHELVES; shelf++) {
                    weights[shelf][i] = shelves[shelf].steps[i] * STEP;
                    int next = nextOf(shelf, i, sizes);
                    if (next != NONE) {
                        weights[shelf][i] += weightOver(shelf, i, next, sizes);
                    }
                }
            }
        }

        void choose(int[] sizes) {
            int shelf = lightestAtFirst();
            weight = shelf == NONE ? 0 : weights[shelf][0];
            for (int i = 0; i < calls && shelf != NONE; i++) {
                chosen[i] = shelf;
                shelf = nextOf(shelf, i, sizes);
            }
        }

        private int lightestAtFirst() {
            int lightest = NONE;
            for (int shelf = 0; shelf < SHELVES && calls > 0; shelf++) {
                if (isIn(some, shelf) && (lightest == NONE || weights[shelf][0] < weights[lightest][0])) {
                    lightest = shelf;
                }
            }
            return lightest;
        }

        /** The best shelf for the call behind call i, of equal ones the least; NONE behind the last call. */
        private int nextOf(int shelf, int i, int[] sizes) {
            int best = NONE;
            int least = 0;
            for (int next = 0; next < SHELVES && i + 1 < calls; next++) {
                if (isIn(some, next)) {
                    int over = weightOver(shelf, i, next, sizes);
                    if (best == NONE || over < least) {
                        best = next;
                        least = over;
                    }
                }
            }
            return best;
        }

        private int weightOver(int shelf, int i, int next, int[] sizes) {
            int moving = shelf == next ? 0 : (fee + each * sizes[i]) * STEP + 1;
            return moving + weights[next][i + 1];
        }
    }
}
