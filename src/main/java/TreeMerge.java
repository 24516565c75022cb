/**
 * Trees edited by two: a grammar, editions of one tree, their matching, merging, carrying and taking back.
 * Numbers of nodes, kinds and editions start at 0; what a call can't do it refuses with NONE or false.
 */
public final class TreeMerge {
    public static final int NONE = -1;

    private static final int MAX_BYTES = 500;
    private static final int MAX_KINDS = 10;
    private static final int MAX_NUMBERS = 150;
    private static final int MAX_EDITIONS = 12;
    private static final int MAX_TREE = 24;
    private static final int MAX_STANDING = 40;
    private static final int MAX_DEPTH = 8;
    private static final int MAX_EXACT = 6;
    private static final int MAX_TOLD = 3 * MAX_NUMBERS;
    private static final int LAST_QUARREL = 8;
    private static final int SETTLEABLE = 3;
    private static final int DRAFT = 12;
    private static final int MADE = 100;
    private static final int PAIRS = 100;
    private static final int NAME_REST = 1000003;
    /** The writer of a node that was put in the draft which is still open. */
    private static final int UNWRITTEN = -2;

    private final Text text;
    private Grammar rules;
    private Grammar trial;
    private final Tree read;
    private final Tree textTree;
    private final Kids kids;
    private final Matcher matcher;
    private final Editions editions;
    private final Draft draft;
    private final Settled settled;
    private final Merging merging;
    private final Tree made;
    private final Tree fresh;
    private final Printer printer;
    private final int[] nodeWriters;
    private int numbers;
    private final int[] told;
    private int toldSize;
    private final int[] nameRow;

    public TreeMerge() {
        text = new Text();
        rules = new Grammar();
        trial = new Grammar();
        read = new Tree();
        textTree = new Tree();
        kids = new Kids();
        matcher = new Matcher();
        editions = new Editions();
        draft = new Draft();
        settled = new Settled();
        merging = new Merging();
        made = new Tree();
        fresh = new Tree();
        printer = new Printer();
        nodeWriters = new int[MAX_NUMBERS];
        told = new int[MAX_TOLD];
        nameRow = new int[MAX_STANDING];
    }

    // ---- the text and the grammar ----

    public int feed(int a, int b, int c, int d, int e) {
        if (!text.hasRoom(20)) {
            return NONE;
        }
        text.append(a);
        text.append(b);
        text.append(c);
        text.append(d);
        text.append(e);
        return text.length;
    }

    public boolean end(int n) {
        if (n < 0 || n > text.length) {
            return false;
        }
        text.length = n;
        return true;
    }

    public int fault(boolean tree) {
        return tree ? readTree() : trial.readFrom(text);
    }

    public int grammar() {
        if (rules.kinds > 0 || trial.readFrom(text) != NONE) {
            return NONE;
        }
        Grammar come = trial;
        trial = rules;
        rules = come;
        text.length = 0;
        return rules.kinds;
    }

    public int breaks() {
        return readTree() == NONE ? textTree.firstBreak(rules, kids) : NONE;
    }

    /** Reads the text as a tree and puts its nodes in their order; answers the fault. */
    private int readTree() {
        int fault = read.readFrom(text, rules);
        if (fault == NONE) {
            textTree.arrange(read, rules);
        }
        return fault;
    }

    private boolean readsAndFits() {
        return readTree() == NONE && textTree.firstBreak(rules, kids) == NONE;
    }

    // ---- editions that come of the text ----

    public int first() {
        if (editions.isFull() || !readsAndFits()) {
            return NONE;
        }
        matcher.pairNothing();
        return comeOfText(NONE);
    }

    public int match(int edition, int what) {
        if (!matchText(edition)) {
            return NONE;
        }
        if (what == 0) {
            return matcher.cost;
        }
        if (what == 1) {
            return matcher.exact ? 1 : 0;
        }
        if (what == 2) {
            return matcher.bound();
        }
        return what >= PAIRS ? matcher.numberFor(what - PAIRS) : NONE;
    }

    public int next(int parent) {
        if (editions.isFull() || !editions.has(parent) || !readsAndFits() || !matchText(parent)) {
            return NONE;
        }
        return comeOfText(parent);
    }

    private boolean matchText(int edition) {
        Tree tree = editions.treeOf(edition);
        if (tree == null || readTree() != NONE || textTree.size == 0 || textTree.kinds[0] != 0) {
            return false;
        }
        matcher.pairUp(tree, textTree);
        return true;
    }

    /** The text's tree with the numbers of what the matcher has paired, and new ones for the others. */
    private int comeOfText(int parent) {
        if (numbers + textTree.size - matcher.pairs() > MAX_NUMBERS) {
            return NONE;
        }
        int edition = editions.size;
        fresh.copy(textTree);
        for (int i = 0; i < fresh.size; i++) {
            int number = matcher.numberFor(i);
            fresh.ids[i] = number == NONE ? newNumber(edition) : number;
            fresh.ups[i] = fresh.tops[i] < 0 ? NONE : fresh.ids[fresh.tops[i]];
        }
        text.length = 0;
        return editions.add(fresh, parent, NONE);
    }

    private int newNumber(int writer) {
        if (numbers >= MAX_NUMBERS) {
            return NONE;
        }
        nodeWriters[numbers] = writer;
        numbers++;
        return numbers - 1;
    }

    // ---- the draft ----

    public boolean begin(int edition) {
        Tree tree = editions.treeOf(edition);
        if (draft.open || tree == null) {
            return false;
        }
        draft.open = true;
        draft.edition = edition;
        draft.tree.copy(tree);
        return true;
    }

    public boolean drop() {
        if (!draft.open) {
            return false;
        }
        endDraft(NONE);
        return true;
    }

    public int put(int parent, int place, int kind, long word) {
        int under = draft.find(parent);
        long flushed = flushLeft(word);
        if (under == NONE || !rules.hasKind(kind) || flushed < 0) {
            return NONE;
        }
        if (draft.tree.size >= MAX_TREE || numbers >= MAX_NUMBERS || !draft.hasPlace(under, place, NONE, rules)) {
            return NONE;
        }
        int number = newNumber(UNWRITTEN);
        draft.insert(number, parent, place, kind, flushed);
        draft.arrange(rules);
        return number;
    }

    public boolean take(int node) {
        int at = draft.find(node);
        if (at == NONE || at == 0 || draft.tree.childCount(at) > 0) {
            return false;
        }
        draft.cut(at);
        draft.arrange(rules);
        return true;
    }

    public boolean move(int node, int parent, int place) {
        int at = draft.find(node);
        int under = draft.find(parent);
        if (at == NONE || at == 0 || under == NONE || draft.tree.isWithin(under, at)) {
            return false;
        }
        if (!draft.hasPlace(under, place, at, rules)) {
            return false;
        }
        int kind = draft.tree.kinds[at];
        long word = draft.tree.words[at];
        draft.cut(at);
        draft.insert(node, parent, place, kind, word);
        draft.arrange(rules);
        return true;
    }

    public boolean rename(int node, long word) {
        int at = draft.find(node);
        long flushed = flushLeft(word);
        if (at == NONE || flushed < 0 || draft.tree.words[at] == flushed) {
            return false;
        }
        draft.tree.words[at] = flushed;
        draft.arrange(rules);
        return true;
    }

    public int close() {
        if (!draft.open || editions.isFull() || draft.tree.firstBreak(rules, kids) != NONE) {
            return NONE;
        }
        int edition = editions.add(draft.tree, draft.edition, NONE);
        endDraft(edition);
        return edition;
    }

    private void endDraft(int writer) {
        for (int i = 0; i < numbers; i++) {
            if (nodeWriters[i] == UNWRITTEN) {
                nodeWriters[i] = writer;
            }
        }
        draft.open = false;
    }

    // ---- merging ----

    public int base(int one, int other) {
        return findBase(one, other);
    }

    public int merge(int one, int other) {
        if (editions.comesFrom(one, other)) {
            return one;
        }
        if (editions.comesFrom(other, one)) {
            return other;
        }
        if (editions.isFull()) {
            return NONE;
        }
        int found = findBase(one, other);
        Tree basis = found == MADE ? made : editions.treeOf(found);
        return mergeOn(basis, one, other, one, other);
    }

    public int carry(int edition, int to) {
        int own = editions.onlyParent(edition);
        if (own == NONE || editions.isFull() || editions.common(edition, to) == 0) {
            return NONE;
        }
        return mergeOn(editions.treeOf(own), edition, to, to, NONE);
    }

    public int back(int edition, int out) {
        int own = editions.onlyParent(edition);
        if (own == NONE || editions.isFull() || edition == out || !editions.comesFrom(out, edition)) {
            return NONE;
        }
        return mergeOn(editions.treeOf(edition), own, out, out, NONE);
    }

    /** The base's number, or MADE with its tree in made. */
    private int findBase(int one, int other) {
        int latest = editions.latest(editions.common(one, other));
        int least = editions.leastOf(latest);
        int second = editions.leastOf(latest & (latest - 1));
        if (second == NONE) {
            return least;
        }
        int under = editions.latest(editions.common(least, second));
        Tree basis = editions.treeOf(editions.leastOf(under));
        if (basis == null || (under & (under - 1)) != 0 || !runMerging(basis, least, second)) {
            return NONE;
        }
        made.copy(merging.result);
        return MADE;
    }

    private boolean runMerging(Tree basis, int one, int other) {
        Tree mine = editions.treeOf(one);
        Tree theirs = editions.treeOf(other);
        if (mine == null || theirs == null) {
            return false;
        }
        merging.one.load(mine, one);
        merging.other.load(theirs, other);
        merging.base.load(basis, NONE);
        return merging.run(settled, rules, kids);
    }

    /** Merges two editions on a base, tells the quarrels, and lets the edition come if there are none. */
    private int mergeOn(Tree basis, int one, int other, int parent, int secondParent) {
        if (basis == null || !editions.has(one) || !editions.has(other)) {
            return NONE;
        }
        boolean clean = runMerging(basis, one, other);
        toldSize = merging.tellInto(told);
        return clean ? editions.add(merging.result, parent, secondParent) : NONE;
    }

    public int quarrel(int k) {
        if (k == NONE) {
            return toldSize;
        }
        return k >= 0 && k < toldSize ? told[k] : NONE;
    }

    public boolean settle(int node, int kind, int edition) {
        if (node < 0 || node >= numbers || kind < 1 || kind > SETTLEABLE || !editions.has(edition)) {
            return false;
        }
        settled.set(node, kind, edition);
        return true;
    }

    public int unsettle() {
        int were = settled.size;
        settled.clear();
        return were;
    }

    // ---- what is told of editions ----

    public int node(int edition, int k) {
        Tree tree = editions.treeOf(edition);
        if (tree == null) {
            return NONE;
        }
        if (k == NONE) {
            return tree.size;
        }
        return k >= 0 && k < tree.size ? tree.ids[k] : NONE;
    }

    public int of(int edition, int node, int what) {
        Tree tree = editionOrDraft(edition);
        int at = tree == null ? NONE : tree.find(node);
        if (at == NONE) {
            return NONE;
        }
        switch (what) {
            case 0:
                return tree.kinds[at];
            case 1:
                return tree.ups[at];
            case 2:
                return tree.placeOf(at);
            case 3:
                return tree.childCount(at);
            case 4:
                return tree.nameOf(at, nameRow);
            case 5:
                return edition == DRAFT ? NONE : tree.writers[at];
            case 6:
                return tree.deeps[at];
            default:
                return NONE;
        }
    }

    public long word(int edition, int node) {
        Tree tree = editionOrDraft(edition);
        int at = tree == null ? NONE : tree.find(node);
        return at == NONE ? 0 : flushRight(tree.words[at]);
    }

    private Tree editionOrDraft(int edition) {
        if (edition == DRAFT) {
            return draft.open ? draft.tree : null;
        }
        return editions.treeOf(edition);
    }

    public int writer(int node) {
        return node >= 0 && node < numbers ? Math.max(nodeWriters[node], NONE) : NONE;
    }

    public int name(int edition) {
        Tree tree = editions.treeOf(edition);
        return tree == null ? NONE : tree.nameOf(0, nameRow);
    }

    public boolean same(int one, int other) {
        Tree mine = editions.treeOf(one);
        Tree theirs = editions.treeOf(other);
        return mine != null && theirs != null && mine.isSameFrom(0, theirs, 0);
    }

    public int print(int edition, int k) {
        Tree tree = editions.treeOf(edition);
        if (tree == null) {
            return NONE;
        }
        printer.start(k);
        printer.addTree(tree, rules);
        return k == NONE ? printer.written : printer.found;
    }

    public int parent(int edition, int k) {
        if (!editions.has(edition)) {
            return NONE;
        }
        if (k == 0) {
            return editions.firsts[edition];
        }
        return k == 1 ? editions.seconds[edition] : NONE;
    }

    public boolean from(int edition, int other) {
        return editions.comesFrom(edition, other);
    }

    public int count(int what) {
        switch (what) {
            case 0:
                return rules.kinds;
            case 1:
                return editions.size;
            case 2:
                return numbers;
            case 3:
                return text.length;
            case 4:
                return draft.open ? 1 : 0;
            case 5:
                return settled.size;
            default:
                return NONE;
        }
    }

    // ---- words and bytes ----

    private static boolean isLetter(int sign) {
        return sign >= 'a' && sign <= 'z';
    }

    private static boolean isWordByte(int sign) {
        return isLetter(sign) || (sign >= '0' && sign <= '9');
    }

    /**
     * Words are held with their first byte highest, so that comparing the numbers compares the bytes
     * (none of them is above 127) and none, 0, is ahead of all. NONE if a byte can't be in a word.
     */
    private static long flushLeft(long word) {
        long flushed = 0;
        int room = 56;
        for (int shift = 56; shift >= 0; shift -= 8) {
            int sign = (int) (word >>> shift) & 255;
            if (sign != 0 && !isWordByte(sign)) {
                return NONE;
            }
            if (sign != 0) {
                flushed |= (long) sign << room;
                room -= 8;
            }
        }
        return flushed;
    }

    private static long flushRight(long word) {
        long flushed = 0;
        for (int shift = 56; shift >= 0; shift -= 8) {
            long sign = (word >>> shift) & 255;
            if (sign != 0) {
                flushed = (flushed << 8) | sign;
            }
        }
        return flushed;
    }

    /** The order of a set's children. */
    private static boolean isAhead(int kind, long word, int number, int kind2, long word2, int number2) {
        if (kind != kind2) {
            return kind < kind2;
        }
        return word != word2 ? word < word2 : number < number2;
    }

    /** The text, and a head that goes over it from token to token. */
    private static final class Text {
        static final int END = 0;
        static final int NAME = 1;
        static final int LEAF = 2;
        static final int SET = 3;
        static final int WORD = 4;
        /** A word that the end of the text cuts off. */
        static final int CUT = 5;
        static final int BAD = 6;
        static final int WORD_BYTES = 8;

        final int[] bytes = new int[MAX_BYTES];
        int length;
        /** One of the above, or the sign itself. */
        int type;
        int start;
        int stop;

        boolean hasRoom(int more) {
            return length + more <= MAX_BYTES;
        }

        void append(int number) {
            for (int shift = 24; shift >= 0; shift -= 8) {
                if (length < MAX_BYTES) {
                    bytes[length] = (number >>> shift) & 255;
                    length++;
                }
            }
        }

        /** The head is ahead of the first token. */
        void rewind() {
            stop = 0;
        }

        void advance() {
            start = stop;
            while (start < length && (bytes[start] == ' ' || bytes[start] == '\n')) {
                start++;
            }
            stop = start;
            if (start >= length) {
                type = END;
            } else if (isLetter(bytes[start])) {
                cutName();
            } else if (bytes[start] == '{') {
                cutWord();
            } else {
                type = isSign(bytes[start]) ? bytes[start] : BAD;
                stop = start + 1;
            }
        }

        private void cutName() {
            while (stop < length && isLetter(bytes[stop])) {
                stop++;
            }
            type = NAME;
            if (spells("leaf")) {
                type = LEAF;
            } else if (spells("set")) {
                type = SET;
            }
        }

        private void cutWord() {
            stop = start + 1;
            while (stop < length && stop - start <= WORD_BYTES && isWordByte(bytes[stop])) {
                stop++;
            }
            if (stop >= length) {
                type = CUT;
            } else if (bytes[stop] == '}' && stop - start > 1) {
                type = WORD;
                stop++;
            } else {
                type = BAD;
            }
        }

        private boolean spells(String keyword) {
            if (stop - start != keyword.length()) {
                return false;
            }
            for (int i = 0; i < keyword.length(); i++) {
                if (bytes[start + i] != keyword.charAt(i)) {
                    return false;
                }
            }
            return true;
        }

        private static boolean isSign(int sign) {
            return sign == '=' || sign == ';' || sign == '*' || sign == '?' || sign == '(' || sign == ')';
        }

        /** The word under the head, flushed left. */
        long wordHere() {
            long flushed = 0;
            int room = 56;
            for (int i = start + 1; i < stop - 1 && room >= 0; i++) {
                flushed |= (long) bytes[i] << room;
                room -= 8;
            }
            return flushed;
        }
    }

    /** The rules that a text says; a rule's number is its kind. */
    private static final class Grammar {
        /** A copy of the text of which the rules came: names are places in it. */
        final int[] bytes = new int[MAX_BYTES];
        int kinds;
        final int[] nameStarts = new int[MAX_KINDS];
        final int[] nameStops = new int[MAX_KINDS];
        /** Text.LEAF, Text.SET or the sign =. */
        final int[] shapes = new int[MAX_KINDS];
        final int[] firstItems = new int[MAX_KINDS];
        final int[] endItems = new int[MAX_KINDS];
        int items;
        final int[] itemStarts = new int[MAX_BYTES];
        final int[] itemStops = new int[MAX_BYTES];
        final int[] itemKinds = new int[MAX_BYTES];
        /** The sign ? or * behind the item, or 0. */
        final int[] itemMarks = new int[MAX_BYTES];
        /** reached[s] is 1 if the children seen so far can be what the first s items say. */
        final int[] reached = new int[MAX_BYTES + 1];

        boolean hasKind(int kind) {
            return kind >= 0 && kind < kinds;
        }

        boolean isSet(int kind) {
            return hasKind(kind) && shapes[kind] == Text.SET;
        }

        /** Takes the rules from the text; answers the fault. */
        int readFrom(Text text) {
            System.arraycopy(text.bytes, 0, bytes, 0, text.length);
            kinds = 0;
            items = 0;
            text.rewind();
            text.advance();
            for (int rule = 0; rule <= MAX_KINDS; rule++) {
                int fault = readRule(text);
                if (fault != NONE) {
                    return fault;
                }
                if (text.type == Text.END) {
                    break;
                }
            }
            return resolveItems();
        }

        private int readRule(Text text) {
            if (text.type != Text.NAME || kinds >= MAX_KINDS || kindAt(text) != NONE) {
                return text.start;
            }
            nameStarts[kinds] = text.start;
            nameStops[kinds] = text.stop;
            text.advance();
            int shape = text.type;
            if (shape != Text.LEAF && shape != Text.SET && shape != '=') {
                return text.start;
            }
            shapes[kinds] = shape;
            firstItems[kinds] = items;
            text.advance();
            if (shape != Text.LEAF) {
                if (text.type != Text.NAME) {
                    return text.start;
                }
                readItems(text, shape == '=');
            }
            endItems[kinds] = items;
            if (text.type != ';') {
                return text.start;
            }
            kinds++;
            text.advance();
            return NONE;
        }

        private void readItems(Text text, boolean marked) {
            while (text.type == Text.NAME && items < MAX_BYTES) {
                itemStarts[items] = text.start;
                itemStops[items] = text.stop;
                itemMarks[items] = 0;
                text.advance();
                if (marked && (text.type == '?' || text.type == '*')) {
                    itemMarks[items] = text.type;
                    text.advance();
                }
                items++;
            }
        }

        private int resolveItems() {
            for (int i = 0; i < items; i++) {
                itemKinds[i] = kindOf(bytes, itemStarts[i], itemStops[i]);
                if (itemKinds[i] == NONE) {
                    return itemStarts[i];
                }
            }
            return NONE;
        }

        /** The kind that the token under the text's head names. */
        int kindAt(Text text) {
            return kindOf(text.bytes, text.start, text.stop);
        }

        private int kindOf(int[] row, int start, int stop) {
            for (int kind = 0; kind < kinds; kind++) {
                if (isNamed(kind, row, start, stop)) {
                    return kind;
                }
            }
            return NONE;
        }

        private boolean isNamed(int kind, int[] row, int start, int stop) {
            int shift = nameStarts[kind] - start;
            if (nameStops[kind] - stop != shift) {
                return false;
            }
            for (int i = start; i < stop; i++) {
                if (row[i] != bytes[i + shift]) {
                    return false;
                }
            }
            return true;
        }

        /** Whether a node with these children fits, but for likeness among a set's children. */
        boolean allows(int kind, Kids kids) {
            if (!hasKind(kind)) {
                return false;
            }
            if (shapes[kind] == Text.LEAF) {
                return kids.size == 0;
            }
            return shapes[kind] == Text.SET ? namesAll(kind, kids) : saysItems(kind, kids);
        }

        private boolean namesAll(int kind, Kids kids) {
            for (int i = 0; i < kids.size; i++) {
                boolean named = false;
                for (int item = firstItems[kind]; item < endItems[kind]; item++) {
                    named = named || itemKinds[item] == kids.kinds[i];
                }
                if (!named) {
                    return false;
                }
            }
            return true;
        }

        /** All readings at once, for one name may stand in several items. */
        private boolean saysItems(int kind, Kids kids) {
            int base = firstItems[kind];
            int length = endItems[kind] - base;
            for (int s = 0; s <= length; s++) {
                reached[s] = 0;
            }
            reached[0] = 1;
            passOver(base, length);
            for (int i = 0; i < kids.size; i++) {
                step(base, length, kids.kinds[i]);
                passOver(base, length);
            }
            return reached[length] == 1;
        }

        private void step(int base, int length, int kind) {
            for (int s = length; s >= 0; s--) {
                boolean stays = s < length && reached[s] == 1 && itemMarks[base + s] == '*'
                        && itemKinds[base + s] == kind;
                boolean comes = s > 0 && reached[s - 1] == 1 && itemMarks[base + s - 1] != '*'
                        && itemKinds[base + s - 1] == kind;
                reached[s] = stays || comes ? 1 : 0;
            }
        }

        private void passOver(int base, int length) {
            for (int s = 0; s < length; s++) {
                if (reached[s] == 1 && itemMarks[base + s] != 0) {
                    reached[s + 1] = 1;
                }
            }
        }
    }

    /** The children of one node in their order, to be held against its rule. */
    private static final class Kids {
        int size;
        final int[] kinds = new int[MAX_STANDING];
        final long[] words = new long[MAX_STANDING];

        void clear() {
            size = 0;
        }

        void add(int kind, long word) {
            if (size < MAX_STANDING) {
                kinds[size] = kind;
                words[size] = word;
                size++;
            }
        }

        boolean hasLikes() {
            for (int i = 0; i < size; i++) {
                for (int j = 0; j < i; j++) {
                    if (kinds[i] == kinds[j] && words[i] == words[j]) {
                        return true;
                    }
                }
            }
            return false;
        }
    }

    /**
     * Nodes, either in the order of their tree (then tops and deeps hold), or as a list: there only the
     * order of those with the same parent counts, and arrange() makes a tree of it.
     */
    private static final class Tree {
        int size;
        final int[] ids = new int[MAX_STANDING];
        /** The parent's number. */
        final int[] ups = new int[MAX_STANDING];
        /** The parent's index here. */
        final int[] tops = new int[MAX_STANDING];
        final int[] deeps = new int[MAX_STANDING];
        final int[] kinds = new int[MAX_STANDING];
        final long[] words = new long[MAX_STANDING];
        /** The editions in which the words were written. */
        final int[] writers = new int[MAX_STANDING];

        void clear() {
            size = 0;
        }

        void add(int id, int up, int kind, long word) {
            if (size < MAX_STANDING) {
                ids[size] = id;
                ups[size] = up;
                kinds[size] = kind;
                words[size] = word;
                size++;
            }
        }

        void insert(int at, int id, int up, int kind, long word) {
            if (at < 0 || at > size || size >= MAX_STANDING) {
                return;
            }
            for (int i = size; i > at; i--) {
                moveEntry(i - 1, i);
            }
            ids[at] = id;
            ups[at] = up;
            kinds[at] = kind;
            words[at] = word;
            size++;
        }

        void cut(int at) {
            if (at < 0 || at >= size) {
                return;
            }
            for (int i = at + 1; i < size; i++) {
                moveEntry(i, i - 1);
            }
            size--;
        }

        private void moveEntry(int i, int to) {
            ids[to] = ids[i];
            ups[to] = ups[i];
            kinds[to] = kinds[i];
            words[to] = words[i];
        }

        void copy(Tree other) {
            size = other.size;
            for (int i = 0; i < size; i++) {
                ids[i] = other.ids[i];
                ups[i] = other.ups[i];
                tops[i] = other.tops[i];
                deeps[i] = other.deeps[i];
                kinds[i] = other.kinds[i];
                words[i] = other.words[i];
                writers[i] = other.writers[i];
            }
        }

        int find(int id) {
            for (int i = 0; i < size; i++) {
                if (ids[i] == id) {
                    return i;
                }
            }
            return NONE;
        }

        /** Takes a list of the nodes from the text, numbered as they stand; answers the fault. */
        int readFrom(Text text, Grammar rules) {
            clear();
            text.rewind();
            text.advance();
            int depth = 1;
            int up = NONE;
            for (int i = 0; i <= MAX_TREE; i++) {
                int kind = rules.kindAt(text);
                if (text.type != Text.NAME || size >= MAX_TREE || kind == NONE) {
                    return text.start;
                }
                add(i, up, kind, 0);
                text.advance();
                if (text.type == Text.CUT) {
                    return text.length;
                }
                if (text.type == Text.WORD) {
                    words[i] = text.wordHere();
                    text.advance();
                }
                if (text.type == '(') {
                    if (depth >= MAX_DEPTH) {
                        return text.start;
                    }
                    depth++;
                    up = i;
                    text.advance();
                    continue;
                }
                while (depth > 1 && text.type == ')') {
                    depth--;
                    up = up < 0 ? NONE : ups[up];
                    text.advance();
                }
                if (depth == 1) {
                    return text.type == Text.END ? NONE : text.start;
                }
            }
            return text.start;
        }

        /** Puts the nodes of a list in the order of their tree; the list's deeps are lost by it. */
        void arrange(Tree list, Grammar rules) {
            clear();
            for (int i = 0; i < list.size; i++) {
                list.deeps[i] = 0;
            }
            int at = takeFrom(list, list.childIndex(NONE, 0), NONE);
            for (int step = 0; step < 2 * MAX_STANDING && at >= 0; step++) {
                int child = list.nextWaiting(ids[at], rules.isSet(kinds[at]));
                at = child == NONE ? tops[at] : takeFrom(list, child, at);
            }
        }

        private int takeFrom(Tree list, int i, int top) {
            if (i < 0 || i >= list.size || size >= MAX_STANDING) {
                return NONE;
            }
            list.deeps[i] = 1;
            add(list.ids[i], list.ups[i], list.kinds[i], list.words[i]);
            tops[size - 1] = top;
            deeps[size - 1] = top < 0 ? 1 : deeps[top] + 1;
            return size - 1;
        }

        /** In a list that is being arranged: the child that comes next. */
        private int nextWaiting(int up, boolean inSet) {
            int best = NONE;
            for (int i = 0; i < size; i++) {
                if (ups[i] != up || deeps[i] != 0) {
                    continue;
                }
                if (best == NONE || (inSet
                        && isAhead(kinds[i], words[i], ids[i], kinds[best], words[best], ids[best]))) {
                    best = i;
                }
            }
            return best;
        }

        /** The index of the child at a place; the size, if there are not so many. */
        int childIndex(int up, int place) {
            int seen = 0;
            for (int i = 0; i < size; i++) {
                if (ups[i] == up) {
                    if (seen == place) {
                        return i;
                    }
                    seen++;
                }
            }
            return size;
        }

        int childCount(int at) {
            int found = 0;
            for (int i = at + 1; i < size; i++) {
                if (tops[i] == at) {
                    found++;
                }
            }
            return found;
        }

        int placeOf(int at) {
            int place = 0;
            for (int i = 1; i < at; i++) {
                if (tops[i] == tops[at]) {
                    place++;
                }
            }
            return place;
        }

        /** How many nodes the tree from there on has. */
        int extent(int at) {
            int end = at + 1;
            while (end < size && deeps[end] > deeps[at]) {
                end++;
            }
            return end - at;
        }

        boolean isWithin(int at, int above) {
            return at >= above && at < above + extent(above);
        }

        boolean isSameFrom(int at, Tree other, int otherAt) {
            int length = extent(at);
            if (length != other.extent(otherAt)) {
                return false;
            }
            int deeper = other.deeps[otherAt] - deeps[at];
            for (int i = 0; i < length; i++) {
                if (kinds[at + i] != other.kinds[otherAt + i] || words[at + i] != other.words[otherAt + i]
                        || deeps[at + i] + deeper != other.deeps[otherAt + i]) {
                    return false;
                }
            }
            return true;
        }

        /** The index of the first node that doesn't fit. */
        int firstBreak(Grammar rules, Kids kids) {
            if (size > 0 && kinds[0] != 0) {
                return 0;
            }
            for (int i = 0; i < size; i++) {
                kids.clear();
                for (int j = i + 1; j < size; j++) {
                    if (tops[j] == i) {
                        kids.add(kinds[j], words[j]);
                    }
                }
                if (!rules.allows(kinds[i], kids) || (rules.isSet(kinds[i]) && kids.hasLikes())) {
                    return i;
                }
            }
            return NONE;
        }

        /** Goes from the last node back, so that children have their names ahead of their parents. */
        int nameOf(int at, int[] row) {
            for (int i = size - 1; i >= at; i--) {
                int name = kinds[i] + 7;
                for (int shift = 56; shift >= 0; shift -= 8) {
                    int sign = (int) (words[i] >>> shift) & 255;
                    if (sign != 0) {
                        name = (name * 31 + sign) % NAME_REST;
                    }
                }
                for (int j = i + 1; j < size; j++) {
                    if (tops[j] == i) {
                        name = (name * 37 + row[j] + 1) % NAME_REST;
                    }
                }
                row[i] = name;
            }
            return row[at];
        }
    }

    /** Pairs the nodes of an edition's tree with those of the text's. */
    private static final class Matcher {
        Tree a = new Tree();
        Tree b = new Tree();
        final int[] toB = new int[MAX_STANDING];
        final int[] toA = new int[MAX_STANDING];
        final int[] best = new int[MAX_STANDING];
        int cost;
        boolean exact;

        void pairNothing() {
            for (int i = 0; i < MAX_STANDING; i++) {
                toB[i] = NONE;
                toA[i] = NONE;
            }
        }

        /** Both trees have a node, and their outermost ones are of kind 0. */
        void pairUp(Tree edition, Tree text) {
            a = edition;
            b = text;
            pairNothing();
            link(0, 0);
            exact = a.size <= MAX_EXACT && b.size <= MAX_EXACT;
            if (exact) {
                cost = 2 * (a.size + b.size);
                search(1, pairCost(0, 0), b.size - 1);
                takeBest();
            } else {
                for (int round = 1; round <= 4; round++) {
                    goRound(round);
                }
                cost = wholeCost();
            }
        }

        private void link(int i, int j) {
            toB[i] = j;
            toA[j] = i;
        }

        private int pairCost(int i, int j) {
            int sum = a.words[i] != b.words[j] ? 1 : 0;
            return i > 0 && !haveParentsPaired(i, j) ? sum + 1 : sum;
        }

        private boolean haveParentsPaired(int i, int j) {
            int up = a.tops[i];
            return up >= 0 && b.tops[j] >= 0 && toB[up] == b.tops[j];
        }

        /**
         * Tries the partners of a's i-th node, the earliest first and none last: so the first of the ways
         * with the least cost is met first, and only a lesser cost replaces it. What more nodes are left in one
         * tree than in the other can't be paired any more. i, the depth, is at most MAX_EXACT.
         */
        private void search(int i, int sofar, int left) {
            int least = sofar + 2 * Math.abs(left - (a.size - i));
            if (least >= cost) {
                return;
            }
            if (i >= a.size || i >= MAX_EXACT) {
                cost = least;
                System.arraycopy(toB, 0, best, 0, MAX_STANDING);
                return;
            }
            for (int j = 1; j < b.size; j++) {
                if (toA[j] == NONE && a.kinds[i] == b.kinds[j]) {
                    link(i, j);
                    search(i + 1, sofar + pairCost(i, j), left - 1);
                    toB[i] = NONE;
                    toA[j] = NONE;
                }
            }
            search(i + 1, sofar + 2, left);
        }

        private void takeBest() {
            pairNothing();
            for (int i = 0; i < a.size; i++) {
                if (best[i] >= 0) {
                    link(i, best[i]);
                }
            }
        }

        private void goRound(int round) {
            for (int i = 1; i < a.size; i++) {
                for (int j = 1; j < b.size && toB[i] == NONE; j++) {
                    if (toA[j] == NONE && a.kinds[i] == b.kinds[j] && agree(round, i, j)) {
                        linkAll(i, j, round == 1 ? a.extent(i) : 1);
                    }
                }
            }
        }

        private boolean agree(int round, int i, int j) {
            if (round == 1) {
                return a.isSameFrom(i, b, j) && areAllFree(i, j, a.extent(i));
            }
            if (round < 4 && !haveParentsPaired(i, j)) {
                return false;
            }
            return round == 3 || a.words[i] == b.words[j];
        }

        private boolean areAllFree(int i, int j, int length) {
            for (int k = 0; k < length; k++) {
                if (toB[i + k] != NONE || toA[j + k] != NONE) {
                    return false;
                }
            }
            return true;
        }

        private void linkAll(int i, int j, int length) {
            for (int k = 0; k < length; k++) {
                link(i + k, j + k);
            }
        }

        int pairs() {
            int found = 0;
            for (int j = 0; j < MAX_STANDING; j++) {
                if (toA[j] != NONE) {
                    found++;
                }
            }
            return found;
        }

        private int wholeCost() {
            int sum = 2 * (a.size + b.size - 2 * pairs());
            for (int i = 0; i < a.size; i++) {
                if (toB[i] != NONE) {
                    sum += pairCost(i, toB[i]);
                }
            }
            return sum;
        }

        int bound() {
            int sum = 0;
            for (int kind = 0; kind < MAX_KINDS; kind++) {
                int more = 0;
                for (int i = 0; i < a.size; i++) {
                    more += a.kinds[i] == kind ? 1 : 0;
                }
                for (int j = 0; j < b.size; j++) {
                    more -= b.kinds[j] == kind ? 1 : 0;
                }
                sum += Math.abs(more);
            }
            return 2 * sum;
        }

        /** The number of the node with which the text's k-th one is paired. */
        int numberFor(int k) {
            return k >= 0 && k < MAX_STANDING && toA[k] != NONE ? a.ids[toA[k]] : NONE;
        }
    }

    /** The editions and from which they come. */
    private static final class Editions {
        int size;
        final Tree[] trees = new Tree[MAX_EDITIONS];
        final int[] firsts = new int[MAX_EDITIONS];
        final int[] seconds = new int[MAX_EDITIONS];
        /** A bit for each edition from which it comes, its own too. */
        final int[] froms = new int[MAX_EDITIONS];

        boolean has(int edition) {
            return edition >= 0 && edition < size;
        }

        boolean isFull() {
            return size >= MAX_EDITIONS;
        }

        Tree treeOf(int edition) {
            return has(edition) ? trees[edition] : null;
        }

        int add(Tree tree, int firstParent, int secondParent) {
            if (isFull()) {
                return NONE;
            }
            int edition = size;
            Tree own = new Tree();
            own.copy(tree);
            for (int i = 0; i < own.size; i++) {
                int found = writerIn(firstParent, own.ids[i], own.words[i]);
                if (found == NONE) {
                    found = writerIn(secondParent, own.ids[i], own.words[i]);
                }
                own.writers[i] = found == NONE ? edition : found;
            }
            trees[edition] = own;
            firsts[edition] = firstParent;
            seconds[edition] = secondParent;
            froms[edition] = (1 << edition) | fromsOf(firstParent) | fromsOf(secondParent);
            size++;
            return edition;
        }

        private int writerIn(int edition, int id, long word) {
            Tree tree = treeOf(edition);
            int at = tree == null ? NONE : tree.find(id);
            return at == NONE || tree.words[at] != word ? NONE : tree.writers[at];
        }

        private int fromsOf(int edition) {
            return has(edition) ? froms[edition] : 0;
        }

        boolean comesFrom(int edition, int other) {
            return has(other) && (fromsOf(edition) & (1 << other)) != 0;
        }

        int common(int one, int other) {
            return fromsOf(one) & fromsOf(other);
        }

        /** Those of some editions from which no other of them comes. */
        int latest(int some) {
            int left = some;
            for (int i = 0; i < size; i++) {
                if ((some & (1 << i)) != 0) {
                    left &= ~(froms[i] & ~(1 << i));
                }
            }
            return left;
        }

        int leastOf(int some) {
            for (int i = 0; i < size; i++) {
                if ((some & (1 << i)) != 0) {
                    return i;
                }
            }
            return NONE;
        }

        /** The parent of an edition that has just one. */
        int onlyParent(int edition) {
            return has(edition) && seconds[edition] == NONE ? firsts[edition] : NONE;
        }
    }

    /** A copy of an edition that is being changed. */
    private static final class Draft {
        boolean open;
        int edition;
        final Tree tree = new Tree();
        private final Tree list = new Tree();

        int find(int id) {
            return open ? tree.find(id) : NONE;
        }

        /** Whether there is such a place under a node, the moved one left out (both by index). */
        boolean hasPlace(int under, int place, int moved, Grammar rules) {
            if (rules.isSet(tree.kinds[under])) {
                return true;
            }
            int most = tree.childCount(under);
            if (moved != NONE && tree.tops[moved] == under) {
                most--;
            }
            return place >= 0 && place <= most;
        }

        /** Between this or cut() and arrange() the tree is a list only. */
        void insert(int id, int up, int place, int kind, long word) {
            tree.insert(tree.childIndex(up, place), id, up, kind, word);
        }

        void cut(int at) {
            tree.cut(at);
        }

        void arrange(Grammar rules) {
            list.copy(tree);
            tree.arrange(list, rules);
        }
    }

    /** Which edition is to be followed for a node and a kind of quarrel. */
    private static final class Settled {
        int size;
        /** The edition's number and 1; 0 where nothing is settled. */
        private final int[] rows = new int[MAX_NUMBERS * SETTLEABLE];

        private static int rowOf(int node, int kind) {
            boolean known = node >= 0 && node < MAX_NUMBERS && kind >= 1 && kind <= SETTLEABLE;
            return known ? node * SETTLEABLE + kind - 1 : NONE;
        }

        void set(int node, int kind, int edition) {
            int row = rowOf(node, kind);
            if (row == NONE) {
                return;
            }
            if (rows[row] == 0) {
                size++;
            }
            rows[row] = edition + 1;
        }

        int editionFor(int node, int kind) {
            int row = rowOf(node, kind);
            return row == NONE ? NONE : rows[row] - 1;
        }

        void clear() {
            size = 0;
            for (int i = 0; i < rows.length; i++) {
                rows[i] = 0;
            }
        }
    }

    /** One of the three trees of a merging, its nodes found by their numbers. */
    private static final class Side {
        private Tree tree = new Tree();
        int edition;
        private final int[] places = new int[MAX_NUMBERS];
        private final int[] touched = new int[MAX_STANDING];

        void load(Tree from, int number) {
            tree = from;
            edition = number;
            for (int n = 0; n < MAX_NUMBERS; n++) {
                places[n] = NONE;
            }
            for (int i = 0; i < tree.size; i++) {
                int id = tree.ids[i];
                if (id >= 0 && id < MAX_NUMBERS) {
                    places[id] = i;
                }
            }
        }

        private int placeOf(int n) {
            return n >= 0 && n < MAX_NUMBERS ? places[n] : NONE;
        }

        boolean has(int n) {
            return n >= 0 && n < MAX_NUMBERS && places[n] != NONE;
        }

        int kindOf(int n) {
            int at = placeOf(n);
            return at == NONE ? NONE : tree.kinds[at];
        }

        long wordOf(int n) {
            int at = placeOf(n);
            return at == NONE ? 0 : tree.words[at];
        }

        int upOf(int n) {
            int at = placeOf(n);
            return at == NONE ? NONE : tree.ups[at];
        }

        int outermost() {
            return tree.size > 0 ? tree.ids[0] : NONE;
        }

        /** Goes from the last node back, so that each hands it on to its parent in time. */
        void findTouched(Side base) {
            for (int i = 0; i < tree.size; i++) {
                touched[i] = 0;
            }
            for (int i = tree.size - 1; i >= 0; i--) {
                int id = tree.ids[i];
                if (!base.has(id) || base.wordOf(id) != tree.words[i] || base.upOf(id) != tree.ups[i]) {
                    touched[i] = 1;
                }
                if (touched[i] == 1 && tree.tops[i] >= 0) {
                    touched[tree.tops[i]] = 1;
                }
            }
        }

        boolean isTouched(int n) {
            int at = placeOf(n);
            return at != NONE && touched[at] == 1;
        }

        /** 1 if x is ahead of y under up, -1 if y is ahead of x, 0 if this side doesn't say. */
        int ordering(int up, int x, int y) {
            boolean known = x >= 0 && x < MAX_NUMBERS && y >= 0 && y < MAX_NUMBERS;
            int i = known ? places[x] : NONE;
            int j = known ? places[y] : NONE;
            if (i == NONE || j == NONE || tree.ups[i] != up || tree.ups[j] != up) {
                return 0;
            }
            return i < j ? 1 : -1;
        }
    }

    /** Merges two sides on a base; rows go by the nodes' numbers. */
    private static final class Merging {
        private static final int CONTRADICTION = 2;

        final Side one = new Side();
        final Side other = new Side();
        final Side base = new Side();
        final Tree result = new Tree();
        private final Tree list = new Tree();
        /** A bit for each kind of quarrel at the node. */
        private final int[] marks = new int[MAX_NUMBERS];
        private final int[] stands = new int[MAX_NUMBERS];
        private final int[] kinds = new int[MAX_NUMBERS];
        private final int[] ups = new int[MAX_NUMBERS];
        private final long[] words = new long[MAX_NUMBERS];
        private boolean quarrelled;
        /** The children that are being put in order. */
        private final int[] children = new int[MAX_STANDING];
        private int childrenSize;
        /** 1 where the one of the row is to be ahead of the one of the column. */
        private final int[] ahead = new int[MAX_STANDING * MAX_STANDING];
        /** How many of those left are to be ahead of each; NONE for what is no more left. */
        private final int[] waits = new int[MAX_STANDING];

        /** Whether there is no quarrel; then the result stands. */
        boolean run(Settled settled, Grammar rules, Kids kids) {
            quarrelled = false;
            one.findTouched(base);
            other.findTouched(base);
            for (int n = 0; n < MAX_NUMBERS; n++) {
                marks[n] = 0;
                stands[n] = 0;
                decide(n, settled);
            }
            if (!quarrelled) {
                dropTheLed();
                findRings();
                findCrowd();
            }
            if (!quarrelled) {
                listOutermost();
                for (int n = 0; n < MAX_NUMBERS; n++) {
                    if (stands[n] == 1) {
                        orderChildren(n, rules, kids);
                    }
                }
            }
            if (!quarrelled) {
                result.arrange(list, rules);
            }
            return !quarrelled;
        }

        private void mark(int n, int kind) {
            if (n >= 0 && n < MAX_NUMBERS) {
                marks[n] |= 1 << kind;
                quarrelled = true;
            }
        }

        /** Writes kind * 1000 + node by kind, then by node; answers how many. */
        int tellInto(int[] row) {
            int size = 0;
            for (int kind = 1; kind <= LAST_QUARREL && quarrelled; kind++) {
                for (int n = 0; n < MAX_NUMBERS; n++) {
                    if ((marks[n] & (1 << kind)) != 0 && size < row.length) {
                        row[size] = kind * 1000 + n;
                        size++;
                    }
                }
            }
            return size;
        }

        private void decide(int n, Settled settled) {
            if (one.has(n) && other.has(n)) {
                decideShared(n, settled);
            } else if (one.has(n)) {
                decideLone(n, one, other, settled);
            } else if (other.has(n)) {
                decideLone(n, other, one, settled);
            }
        }

        private void decideLone(int n, Side owner, Side lacking, Settled settled) {
            if (base.has(n)) {
                int chosen = settled.editionFor(n, 1);
                if (!owner.isTouched(n) || chosen == lacking.edition) {
                    return;
                }
                if (chosen != owner.edition) {
                    mark(n, 1);
                    return;
                }
            }
            stand(n, owner.kindOf(n), owner.wordOf(n), owner.upOf(n));
        }

        private void decideShared(int n, Settled settled) {
            int wordChoice = settled.editionFor(n, 2);
            int upChoice = settled.editionFor(n, 3);
            long word = choose(n, 2, wordChoice, one.wordOf(n), other.wordOf(n), base.wordOf(n));
            long up = choose(n, 3, upChoice, one.upOf(n), other.upOf(n), base.upOf(n));
            stand(n, one.kindOf(n), word, (int) up);
        }

        private long choose(int n, int kind, int chosen, long mine, long theirs, long was) {
            boolean known = base.has(n);
            if (mine == theirs || (known && theirs == was)) {
                return mine;
            }
            if (known && mine == was) {
                return theirs;
            }
            if (chosen != one.edition && chosen != other.edition) {
                mark(n, kind);
            }
            return chosen == other.edition ? theirs : mine;
        }

        private void stand(int n, int kind, long word, int up) {
            stands[n] = 1;
            kinds[n] = kind;
            words[n] = word;
            ups[n] = up;
        }

        private boolean isStanding(int n) {
            return n >= 0 && n < MAX_NUMBERS && stands[n] == 1;
        }

        /** Those whose parents lead to one that is gone are gone; each round may free the next ones. */
        private void dropTheLed() {
            boolean more = true;
            for (int round = 0; round < MAX_NUMBERS && more; round++) {
                more = false;
                for (int n = 0; n < MAX_NUMBERS; n++) {
                    if (stands[n] == 1 && ups[n] != NONE && !isStanding(ups[n])) {
                        stands[n] = 0;
                        more = true;
                    }
                }
            }
        }

        private void findRings() {
            for (int n = 0; n < MAX_NUMBERS; n++) {
                if (stands[n] == 1 && isLeastOfRing(n)) {
                    mark(n, 4);
                }
            }
        }

        private boolean isLeastOfRing(int n) {
            int at = ups[n];
            for (int step = 0; step < MAX_NUMBERS && at > n && at < MAX_NUMBERS; step++) {
                at = ups[at];
            }
            return at == n;
        }

        private void findCrowd() {
            int crowd = 0;
            for (int n = 0; n < MAX_NUMBERS; n++) {
                crowd += stands[n];
            }
            if (crowd > MAX_STANDING) {
                mark(one.outermost(), 8);
            }
        }

        private void listOutermost() {
            list.clear();
            int root = one.outermost();
            if (isStanding(root)) {
                list.add(root, NONE, kinds[root], words[root]);
            }
        }

        private void orderChildren(int up, Grammar rules, Kids kids) {
            childrenSize = 0;
            for (int n = 0; n < MAX_NUMBERS; n++) {
                if (stands[n] == 1 && ups[n] == up && childrenSize < MAX_STANDING) {
                    children[childrenSize] = n;
                    waits[childrenSize] = 0;
                    childrenSize++;
                }
            }
            boolean inSet = rules.isSet(kinds[up]);
            kids.clear();
            if (!countWaits(up, inSet) || !listInOrder(up, kids)) {
                mark(up, 5);
                return;
            }
            if (!rules.allows(kinds[up], kids)) {
                mark(up, 6);
            }
            if (inSet && kids.hasLikes()) {
                mark(up, 7);
            }
        }

        /** False if the sides contradict each other where the base doesn't say; in a set nobody says. */
        private boolean countWaits(int up, boolean inSet) {
            for (int i = 0; i < childrenSize; i++) {
                for (int j = 0; j < i; j++) {
                    int said = inSet ? 0 : ordering(up, children[i], children[j]);
                    if (said == CONTRADICTION) {
                        return false;
                    }
                    ahead[i * MAX_STANDING + j] = said == 1 ? 1 : 0;
                    ahead[j * MAX_STANDING + i] = said == -1 ? 1 : 0;
                    waits[j] += ahead[i * MAX_STANDING + j];
                    waits[i] += ahead[j * MAX_STANDING + i];
                }
            }
            return true;
        }

        private int ordering(int up, int x, int y) {
            int mine = one.ordering(up, x, y);
            int theirs = other.ordering(up, x, y);
            if (mine == 0 || mine == theirs) {
                return theirs;
            }
            if (theirs == 0) {
                return mine;
            }
            int was = base.ordering(up, x, y);
            if (was == 0) {
                return CONTRADICTION;
            }
            return was == mine ? theirs : mine;
        }

        /** False if at some time each of those left waits for another. */
        private boolean listInOrder(int up, Kids kids) {
            for (int step = 0; step < childrenSize; step++) {
                int i = nextFree();
                if (i == NONE) {
                    return false;
                }
                int n = children[i];
                list.add(n, up, kinds[n], words[n]);
                kids.add(kinds[n], words[n]);
                waits[i] = NONE;
                for (int j = 0; j < childrenSize; j++) {
                    if (waits[j] > 0) {
                        waits[j] -= ahead[i * MAX_STANDING + j];
                    }
                }
            }
            return true;
        }

        private int nextFree() {
            int best = NONE;
            for (int i = 0; i < childrenSize; i++) {
                int n = children[i];
                int m = best == NONE ? n : children[best];
                if (waits[i] == 0 && (best == NONE || isAhead(kinds[n], words[n], n, kinds[m], words[m], m))) {
                    best = i;
                }
            }
            return best;
        }
    }

    /** Goes over a printed tree without keeping it: counts its bytes and catches the wanted one. */
    private static final class Printer {
        private int wanted;
        int written;
        int found;

        void start(int k) {
            wanted = k;
            written = 0;
            found = NONE;
        }

        private void addSign(int sign) {
            if (written == wanted) {
                found = sign;
            }
            written++;
        }

        private void addSigns(int sign, int times) {
            for (int i = 0; i < times; i++) {
                addSign(sign);
            }
        }

        void addTree(Tree tree, Grammar rules) {
            int depth = 0;
            for (int i = 0; i < tree.size; i++) {
                if (i > 0) {
                    addSigns('(', tree.deeps[i] - depth);
                    addSigns(')', depth - tree.deeps[i]);
                    if (tree.deeps[i] <= depth) {
                        addSign(' ');
                    }
                }
                depth = tree.deeps[i];
                addName(tree.kinds[i], rules);
                addWord(tree.words[i]);
            }
            addSigns(')', depth - 1);
        }

        private void addName(int kind, Grammar rules) {
            if (!rules.hasKind(kind)) {
                return;
            }
            int start = rules.nameStarts[kind];
            int length = rules.nameStops[kind] - start;
            if (wanted >= written && wanted - written < length) {
                found = rules.bytes[start + wanted - written];
            }
            written += length;
        }

        private void addWord(long word) {
            if (word == 0) {
                return;
            }
            addSign('{');
            for (int shift = 56; shift >= 0; shift -= 8) {
                int sign = (int) (word >>> shift) & 255;
                if (sign != 0) {
                    addSign(sign);
                }
            }
            addSign('}');
        }
    }
}
