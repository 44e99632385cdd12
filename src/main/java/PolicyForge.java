import java.util.NoSuchElementException;

/** Policies that permit and forbid, read from texts, checked against declared kinds, and asked. */
public final class PolicyForge {
    public static final int REFUSED = -1;
    public static final int NONE = -2;

    private static final int TEXT_LIMIT = 100;
    private static final int FIRST_CHARACTER = 32;
    private static final int LAST_CHARACTER = 126;
    private static final int POLICY_COUNT = 6;
    private static final int ENTITY_COUNT = 16;
    private static final int KIND_COUNT = 3;
    private static final int ATTRIBUTE_COUNT = 3;
    private static final int ACTION_COUNT = 10;
    private static final int COUNT_OF_TOKENS = 10;

    private static final int SORT_MISSING = 0;
    private static final int SORT_NUMBER = 1;
    private static final int SORT_TRUTH = 2;
    private static final int SORT_ENTITY = 3;
    private static final int SORT_COUNT = 4;

    private static final int NOT_THERE = 0;
    private static final int NOT_FITTING = 1;
    private static final int NOT_HELD = 2;
    private static final int HELD = 3;
    private static final int ERROR_TYPE = 4;
    private static final int ERROR_MISSING = 5;
    private static final int ERROR_OVERFLOW = 6;

    /** An EXPR has 81 characters at most, so that its tree has no more than 44 levels. */
    private static final int TREE_LEVELS = 50;

    private final char[] row = new char[TEXT_LIMIT];
    private int length = 0;
    private int faultPlace = NONE;
    private final Policy[] policies = new Policy[POLICY_COUNT];
    private final int[] verdicts = new int[POLICY_COUNT];
    /** A text is read into this one, so that a policy stays if the text is none. */
    private Policy spare = new Policy();
    private final Entities entities = new Entities();
    private final Declarations declared = new Declarations();
    private final Reader reader = new Reader(spare);
    private final Judge judge = new Judge(entities, spare);
    private final Checker checker = new Checker(entities, declared, spare);

    public PolicyForge() {
        for (int i = 0; i < POLICY_COUNT; i++) {
            policies[i] = new Policy();
        }
    }

    public int text(long w) throws IllegalArgumentException, IllegalStateException {
        int coming = 0;
        for (int shift = 56; shift >= 0; shift -= 8) {
            int c = byteAt(w, shift);
            if (c != 0 && (c < FIRST_CHARACTER || c > LAST_CHARACTER)) {
                throw new IllegalArgumentException("a byte is no character");
            }
            coming += c == 0 ? 0 : 1;
        }
        if (length + coming > TEXT_LIMIT) {
            throw new IllegalStateException("the text would be too long");
        }
        for (int shift = 56; shift >= 0; shift -= 8) {
            append(byteAt(w, shift));
        }
        return length;
    }

    public int policy(int i) throws IllegalArgumentException {
        faultPlace = NONE;
        requireNumber(i, POLICY_COUNT);
        faultPlace = reader.readInto(spare, row, length);
        length = 0;
        if (faultPlace != NONE) {
            throw new IllegalArgumentException("the text is no policy");
        }
        Policy old = policies[i];
        policies[i] = spare;
        policies[i].there = true;
        spare = old;
        return policies[i].tokenCount;
    }

    public int where() {
        return faultPlace;
    }

    public boolean drop(int i) throws IllegalArgumentException {
        requireNumber(i, POLICY_COUNT);
        boolean was = policies[i].there;
        policies[i].there = false;
        return was;
    }

    public boolean entity(int e, int kind) throws IllegalArgumentException {
        requireNumber(e, ENTITY_COUNT);
        requireNumber(kind, KIND_COUNT);
        boolean isNew = !entities.isThere(e);
        entities.make(e, kind);
        return isNew;
    }

    public boolean parent(int e, int f)
            throws IllegalArgumentException, NoSuchElementException, IllegalStateException {
        requireNumber(e, ENTITY_COUNT);
        requireNumber(f, ENTITY_COUNT);
        requireEntity(e);
        requireEntity(f);
        if (entities.within(f, e)) {
            throw new IllegalStateException("parents never go in circles");
        }
        return entities.addParent(e, f);
    }

    public int set(int e, int a, int sort, int v) throws IllegalArgumentException, NoSuchElementException {
        requireNumber(e, ENTITY_COUNT);
        requireNumber(a, ATTRIBUTE_COUNT);
        requireNumber(sort, SORT_COUNT);
        if (sort == SORT_ENTITY) {
            requireNumber(v, ENTITY_COUNT);
        }
        requireEntity(e);
        int old = entities.sortOf(e, a);
        entities.give(e, a, sort, v);
        return old;
    }

    public void declare(int kind, int a, int sort, int of, boolean sure) throws IllegalArgumentException {
        requireNumber(kind, KIND_COUNT);
        requireNumber(a, ATTRIBUTE_COUNT);
        requireNumber(sort, SORT_COUNT);
        if (sort == SORT_ENTITY) {
            requireNumber(of, KIND_COUNT);
        }
        declared.put(kind, a, sort == SORT_ENTITY ? Types.entityOf(1 << of) : Types.plain(sort), sure);
    }

    public boolean conforms(int e) throws IllegalArgumentException {
        requireNumber(e, ENTITY_COUNT);
        if (!entities.isThere(e)) {
            return false;
        }
        for (int a = 0; a < ATTRIBUTE_COUNT; a++) {
            if (!attributeConforms(e, a)) {
                return false;
            }
        }
        return true;
    }

    public int check(int i) throws IllegalArgumentException, NoSuchElementException {
        requireNumber(i, POLICY_COUNT);
        if (!policies[i].there) {
            throw new NoSuchElementException("there is no such policy");
        }
        return checker.firstWrong(policies[i]);
    }

    public boolean holds(int i, int p, int action, int r)
            throws IllegalArgumentException, IllegalStateException, UnsupportedOperationException,
            NoSuchElementException, ArithmeticException {
        requireNumber(i, POLICY_COUNT);
        requireQuestion(p, action, r);
        if (!policies[i].there) {
            throw new IllegalStateException("there is no such policy");
        }
        int verdict = judge.verdictOn(policies[i], p, action, r);
        if (verdict == ERROR_TYPE) {
            throw new UnsupportedOperationException("something is not of the sort that is wanted");
        }
        if (verdict == ERROR_MISSING) {
            throw new NoSuchElementException("an attribute is missing");
        }
        if (verdict == ERROR_OVERFLOW) {
            throw new ArithmeticException("a number is beyond ints");
        }
        return verdict == HELD;
    }

    public boolean ask(int p, int action, int r) throws IllegalArgumentException {
        requireQuestion(p, action, r);
        boolean permitted = false;
        boolean forbidden = false;
        for (int i = 0; i < POLICY_COUNT; i++) {
            Policy policy = policies[i];
            verdicts[i] = policy.there ? judge.verdictOn(policy, p, action, r) : NOT_THERE;
            boolean held = verdicts[i] == HELD;
            permitted = permitted || held && policy.permits;
            forbidden = forbidden || held && !policy.permits;
        }
        return permitted && !forbidden;
    }

    public int told(int i) {
        return isNumber(i, POLICY_COUNT) ? verdicts[i] : REFUSED;
    }

    public boolean isIn(int e, int f) throws IllegalArgumentException {
        requireNumber(e, ENTITY_COUNT);
        requireNumber(f, ENTITY_COUNT);
        return entities.within(e, f);
    }

    public int count(int what) {
        switch (what) {
            case 0:
                return length;
            case 1:
                return policiesThere();
            case 2:
                return entities.howMany();
            case 3:
                return policiesLookedAt();
            default:
                return tokensOf(what);
        }
    }

    private static boolean isNumber(int n, int bound) {
        return n >= 0 && n < bound;
    }

    private static void requireNumber(int n, int bound) {
        if (!isNumber(n, bound)) {
            throw new IllegalArgumentException("a number is not as said");
        }
    }

    private static void requireQuestion(int p, int action, int r) {
        requireNumber(p, ENTITY_COUNT);
        requireNumber(action, ACTION_COUNT);
        requireNumber(r, ENTITY_COUNT);
    }

    private void requireEntity(int e) {
        if (!entities.isThere(e)) {
            throw new NoSuchElementException("there is no such entity");
        }
    }

    private static int byteAt(long w, int shift) {
        return (int) (w >>> shift) & 255;
    }

    private void append(int c) {
        if (c != 0 && length < TEXT_LIMIT) {
            row[length] = (char) c;
            length++;
        }
    }

    private boolean attributeConforms(int e, int a) {
        int type = declared.typeOf(entities.kindOf(e), a);
        int sort = entities.sortOf(e, a);
        if (sort == SORT_MISSING) {
            return type == Types.NOTHING || !declared.isSure(entities.kindOf(e), a);
        }
        if (sort != SORT_ENTITY) {
            return type == Types.plain(sort);
        }
        int kinds = entities.kindsOf(entities.valueOf(e, a));
        return kinds != 0 && type == Types.entityOf(kinds);
    }

    private int policiesThere() {
        int n = 0;
        for (int i = 0; i < POLICY_COUNT; i++) {
            n += policies[i].there ? 1 : 0;
        }
        return n;
    }

    private int policiesLookedAt() {
        int n = 0;
        for (int i = 0; i < POLICY_COUNT; i++) {
            n += verdicts[i] >= NOT_HELD ? 1 : 0;
        }
        return n;
    }

    private int tokensOf(int what) {
        if (what < COUNT_OF_TOKENS || what >= COUNT_OF_TOKENS + POLICY_COUNT) {
            return REFUSED;
        }
        Policy policy = policies[what - COUNT_OF_TOKENS];
        return policy.there ? policy.tokenCount : NONE;
    }

    /** What a token is; those that join two parts have the level of the grammar where they do. */
    private enum Sign {
        PERMIT("permit"), FORBID("forbid"), WHEN("when"), UNLESS("unless"), TRUE("true"), FALSE("false"),
        P("p"), R("r"), X("x"), Y("y"), Z("z"),
        OPEN("("), CLOSE(")"), BEGIN("{"), FINISH("}"), COMMA(","), DOT("."), ANY("_"), NOT("!"),
        OR("||", 0), AND("&&", 1),
        SAME("==", 2), OTHER("!=", 2), LESS("<", 2), AT_MOST("<=", 2), IN("in", 2), HAS("has", 2),
        PLUS("+", 3), MINUS("-", 3), TIMES("*", 4),
        NUMERAL(""), ENTITY(""), END(""), STRAY("");

        private static final int LEVEL_NONE = -1;
        private static final int LEVEL_EXPR = 0;
        private static final int LEVEL_RELATIONS = 2;
        private static final int LEVEL_SIGNED = 5;
        private static final Sign[] ALL = values();

        private final String spelling;
        private final int level;

        Sign(String spelling) {
            this(spelling, LEVEL_NONE);
        }

        Sign(String spelling, int level) {
            this.spelling = spelling;
            this.level = level;
        }

        /** The sign that the characters from one place up to another spell, or STRAY. */
        static Sign spelled(char[] row, int from, int to) {
            for (int i = 0; i < ALL.length; i++) {
                if (from < to && ALL[i].isSpelled(row, from, to)) {
                    return ALL[i];
                }
            }
            return STRAY;
        }

        private boolean isSpelled(char[] row, int from, int to) {
            if (to > row.length || to - from != spelling.length()) {
                return false;
            }
            for (int i = 0; i < spelling.length(); i++) {
                if (row[from + i] != spelling.charAt(i)) {
                    return false;
                }
            }
            return true;
        }
    }

    /** The tokens of a text, up to its END or to the first STRAY character, and which one is next. */
    private static final class Tokens {
        private static final int LONGEST_NUMERAL = 6;
        private static final int LONGEST_NAME = 2;

        private final Sign[] signs = new Sign[TEXT_LIMIT + 1];
        private final int[] places = new int[TEXT_LIMIT + 1];
        private final int[] numbers = new int[TEXT_LIMIT + 1];
        private char[] row = new char[0];
        private int length = 0;
        private int size = 0;
        private int next = 0;

        Tokens() {
            signs[0] = Sign.END;
        }

        void split(char[] text, int textLength) {
            row = text;
            length = Math.min(textLength, TEXT_LIMIT);
            next = 0;
            size = 0;
            int at = behindBlanks(0);
            for (int turn = 0; turn < TEXT_LIMIT && at < length; turn++) {
                int end = readOne(at);
                if (signs[size] == Sign.STRAY) {
                    return;
                }
                size++;
                at = behindBlanks(end);
            }
            put(Sign.END, length, 0);
        }

        Sign sign() {
            return signs[next];
        }

        int place() {
            return places[next];
        }

        int number() {
            return numbers[next];
        }

        int howMany() {
            return size;
        }

        void step() {
            if (next < size) {
                next++;
            }
        }

        boolean accept(Sign sign) {
            if (sign() != sign) {
                return false;
            }
            step();
            return true;
        }

        private void put(Sign sign, int place, int number) {
            signs[size] = sign;
            places[size] = place;
            numbers[size] = number;
        }

        /** Puts the token that begins at a place: the place behind it. */
        private int readOne(int at) {
            char c = row[at];
            if (isDigit(c)) {
                return readNumeral(at);
            }
            if (c == '@') {
                return readName(at);
            }
            int end = isLetter(c) ? behindLetters(at) : behindMark(at);
            put(Sign.spelled(row, at, end), at, 0);
            return end;
        }

        private int readNumeral(int at) {
            int end = behindDigits(at);
            boolean fits = end - at <= LONGEST_NUMERAL;
            put(fits ? Sign.NUMERAL : Sign.STRAY, at, fits ? numberIn(at, end) : 0);
            return end;
        }

        private int readName(int at) {
            int end = behindDigits(at + 1);
            int digits = end - at - 1;
            int number = digits <= LONGEST_NAME ? numberIn(at + 1, end) : ENTITY_COUNT;
            boolean fits = digits > 0 && number < ENTITY_COUNT;
            put(fits ? Sign.ENTITY : Sign.STRAY, at, fits ? number : 0);
            return end;
        }

        private int numberIn(int from, int to) {
            int number = 0;
            for (int at = from; at < to; at++) {
                number = number * 10 + (row[at] - '0');
            }
            return number;
        }

        private int behindBlanks(int from) {
            int at = from;
            while (at < length && row[at] == ' ') {
                at++;
            }
            return at;
        }

        private int behindDigits(int from) {
            int at = from;
            while (at < length && isDigit(row[at])) {
                at++;
            }
            return at;
        }

        private int behindLetters(int from) {
            int at = from;
            while (at < length && isLetter(row[at])) {
                at++;
            }
            return at;
        }

        /** Two characters make one mark wherever they can. */
        private int behindMark(int at) {
            boolean two = at + 2 <= length && Sign.spelled(row, at, at + 2) != Sign.STRAY;
            return two ? at + 2 : at + 1;
        }

        private static boolean isDigit(char c) {
            return c >= '0' && c <= '9';
        }

        private static boolean isLetter(char c) {
            return c >= 'a' && c <= 'z';
        }
    }

    /** For whom or what a policy is: all, one entity, or those in one. */
    private static final class Scope {
        private static final int ALL = 0;
        private static final int ONE = 1;
        private static final int WITHIN = 2;

        private int reach = ALL;
        private int entity = 0;

        void become(int newReach, int newEntity) {
            reach = newReach;
            entity = newEntity;
        }

        boolean fits(int e, Entities entities) {
            if (reach == ONE) {
                return e == entity;
            }
            return reach == ALL || entities.within(e, entity);
        }

        int kinds(Entities entities) {
            return reach == ONE ? entities.kindsOf(entity) : Entities.ALL_KINDS;
        }
    }

    /** A policy: its head, and its conditions as trees, whose nodes stand in rows, parts first. */
    private static final class Policy {
        private static final int NO_NODE = -1;
        private static final int ANY_ACTION = -1;
        /** Of when{1}, the shortest, no more than 12 go behind the shortest head. */
        private static final int CONDITION_LIMIT = 12;

        private boolean there = false;
        private boolean permits = false;
        private final Scope principal = new Scope();
        private final Scope resource = new Scope();
        private int action = ANY_ACTION;
        private int tokenCount = 0;
        private int conditionCount = 0;
        private final boolean[] wanted = new boolean[CONDITION_LIMIT];
        private final int[] conditionPlaces = new int[CONDITION_LIMIT];
        private final int[] roots = new int[CONDITION_LIMIT];
        private int nodeCount = 0;
        private final Sign[] signs = new Sign[TEXT_LIMIT];
        private final int[] places = new int[TEXT_LIMIT];
        private final int[] numbers = new int[TEXT_LIMIT];
        private final int[] lefts = new int[TEXT_LIMIT];
        private final int[] rights = new int[TEXT_LIMIT];

        void clear() {
            conditionCount = 0;
            nodeCount = 0;
        }

        boolean addCondition(boolean wantedTruth, int place, int root) {
            if (conditionCount >= CONDITION_LIMIT) {
                return false;
            }
            wanted[conditionCount] = wantedTruth;
            conditionPlaces[conditionCount] = place;
            roots[conditionCount] = root;
            conditionCount++;
            return true;
        }

        int addNode(Sign sign, int place, int number, int left, int right) {
            if (nodeCount >= TEXT_LIMIT) {
                return NO_NODE;
            }
            signs[nodeCount] = sign;
            places[nodeCount] = place;
            numbers[nodeCount] = number;
            lefts[nodeCount] = left;
            rights[nodeCount] = right;
            nodeCount++;
            return nodeCount - 1;
        }

        boolean fits(int p, int asked, int r, Entities entities) {
            return principal.fits(p, entities) && resource.fits(r, entities)
                    && (action == ANY_ACTION || action == asked);
        }
    }

    /** Reads a text by the grammar; it stops at the first token that does not go on. */
    private static final class Reader {
        private static final int TOO_DEEP = 7;

        private final Tokens tokens = new Tokens();
        private Policy made;

        Reader(Policy first) {
            made = first;
        }

        /** NONE if the text is a policy, else the place of the fault. */
        int readInto(Policy policy, char[] row, int length) {
            tokens.split(row, length);
            made = policy;
            made.clear();
            if (readHead() && readConditions()) {
                made.tokenCount = tokens.howMany();
                return NONE;
            }
            return tokens.place();
        }

        private boolean readHead() {
            made.permits = tokens.sign() == Sign.PERMIT;
            return (tokens.accept(Sign.PERMIT) || tokens.accept(Sign.FORBID))
                    && tokens.accept(Sign.OPEN) && readScope(made.principal)
                    && tokens.accept(Sign.COMMA) && readAction()
                    && tokens.accept(Sign.COMMA) && readScope(made.resource)
                    && tokens.accept(Sign.CLOSE);
        }

        private boolean readScope(Scope scope) {
            if (tokens.accept(Sign.ANY)) {
                scope.become(Scope.ALL, 0);
                return true;
            }
            int reach = tokens.accept(Sign.IN) ? Scope.WITHIN : Scope.ONE;
            scope.become(reach, tokens.number());
            return tokens.accept(Sign.ENTITY);
        }

        private boolean readAction() {
            if (tokens.accept(Sign.ANY)) {
                made.action = Policy.ANY_ACTION;
                return true;
            }
            made.action = tokens.number();
            return made.action < ACTION_COUNT && tokens.accept(Sign.NUMERAL);
        }

        private boolean readConditions() {
            for (int turn = 0; turn < TEXT_LIMIT && tokens.sign() != Sign.END; turn++) {
                if (!readCondition()) {
                    return false;
                }
            }
            return tokens.sign() == Sign.END;
        }

        private boolean readCondition() {
            boolean wanted = tokens.sign() == Sign.WHEN;
            int place = tokens.place();
            if (!tokens.accept(Sign.WHEN) && !tokens.accept(Sign.UNLESS) || !tokens.accept(Sign.BEGIN)) {
                return false;
            }
            int root = readLevel(Sign.LEVEL_EXPR, 0);
            return root != Policy.NO_NODE && tokens.accept(Sign.FINISH)
                    && made.addCondition(wanted, place, root);
        }

        /** The levels of the grammar from EXPR down to PRODUCT; relations alone do not repeat. */
        private int readLevel(int level, int deep) {
            if (level >= Sign.LEVEL_SIGNED) {
                return readSigned(deep);
            }
            int node = readLevel(level + 1, deep);
            int most = level == Sign.LEVEL_RELATIONS ? 1 : TEXT_LIMIT;
            for (int turn = 0; turn < most && node != Policy.NO_NODE && tokens.sign().level == level; turn++) {
                node = readJoined(node, level, deep);
            }
            return node;
        }

        private int readJoined(int left, int level, int deep) {
            Sign sign = tokens.sign();
            int place = tokens.place();
            tokens.step();
            if (sign == Sign.HAS) {
                return readAttribute(sign, place, left);
            }
            int right = readLevel(level + 1, deep);
            return right == Policy.NO_NODE ? right : made.addNode(sign, place, 0, left, right);
        }

        /** An EXPR begins with a SIGNED that is as deep, so that what is too deep is refused here. */
        private int readSigned(int deep) {
            Sign sign = tokens.sign();
            if (deep >= TOO_DEEP) {
                return Policy.NO_NODE;
            }
            if (sign != Sign.NOT && sign != Sign.MINUS) {
                return readPart(deep);
            }
            int place = tokens.place();
            tokens.step();
            int inner = readSigned(deep + 1);
            return inner == Policy.NO_NODE ? inner : made.addNode(sign, place, 0, inner, Policy.NO_NODE);
        }

        private int readPart(int deep) {
            int node = readAtom(deep);
            for (int turn = 0; turn < TEXT_LIMIT && node != Policy.NO_NODE && tokens.sign() == Sign.DOT; turn++) {
                int place = tokens.place();
                tokens.step();
                node = readAttribute(Sign.DOT, place, node);
            }
            return node;
        }

        private int readAttribute(Sign sign, int place, int left) {
            int attribute = attributeOf(tokens.sign());
            if (attribute == NONE) {
                return Policy.NO_NODE;
            }
            tokens.step();
            return made.addNode(sign, place, attribute, left, Policy.NO_NODE);
        }

        private static int attributeOf(Sign sign) {
            switch (sign) {
                case X:
                    return 0;
                case Y:
                    return 1;
                case Z:
                    return 2;
                default:
                    return NONE;
            }
        }

        private int readAtom(int deep) {
            switch (tokens.sign()) {
                case NUMERAL:
                case TRUE:
                case FALSE:
                case ENTITY:
                case P:
                case R:
                    return readLeaf();
                case OPEN:
                    return readBrackets(deep);
                default:
                    return Policy.NO_NODE;
            }
        }

        private int readLeaf() {
            int leaf = made.addNode(tokens.sign(), tokens.place(), tokens.number(), Policy.NO_NODE, Policy.NO_NODE);
            tokens.step();
            return leaf;
        }

        /** Brackets leave no node: what stands in them is the part itself. */
        private int readBrackets(int deep) {
            tokens.step();
            int inner = readLevel(Sign.LEVEL_EXPR, deep + 1);
            return inner != Policy.NO_NODE && tokens.accept(Sign.CLOSE) ? inner : Policy.NO_NODE;
        }
    }

    /** The entities that are there, with their kinds, parents and attributes. */
    private static final class Entities {
        private static final int ALL_KINDS = (1 << KIND_COUNT) - 1;

        private final int[] kinds = new int[ENTITY_COUNT];
        private final int[] parents = new int[ENTITY_COUNT];
        private final int[] sorts = new int[ENTITY_COUNT * ATTRIBUTE_COUNT];
        private final int[] values = new int[ENTITY_COUNT * ATTRIBUTE_COUNT];

        Entities() {
            for (int e = 0; e < ENTITY_COUNT; e++) {
                kinds[e] = NONE;
            }
        }

        boolean isThere(int e) {
            return kinds[e] != NONE;
        }

        int howMany() {
            int n = 0;
            for (int e = 0; e < ENTITY_COUNT; e++) {
                n += isThere(e) ? 1 : 0;
            }
            return n;
        }

        void make(int e, int kind) {
            kinds[e] = kind;
            parents[e] = 0;
            for (int a = 0; a < ATTRIBUTE_COUNT; a++) {
                give(e, a, SORT_MISSING, 0);
            }
        }

        boolean addParent(int e, int f) {
            boolean isNew = (parents[e] >> f & 1) == 0;
            parents[e] |= 1 << f;
            return isNew;
        }

        boolean within(int e, int f) {
            int reached = 1 << e;
            for (int turn = 0; turn < ENTITY_COUNT; turn++) {
                reached = withParents(reached);
            }
            return (reached >> f & 1) != 0;
        }

        private int withParents(int some) {
            int all = some;
            for (int e = 0; e < ENTITY_COUNT; e++) {
                all |= (some >> e & 1) != 0 ? parents[e] : 0;
            }
            return all;
        }

        void give(int e, int a, int sort, int v) {
            sorts[e * ATTRIBUTE_COUNT + a] = sort;
            values[e * ATTRIBUTE_COUNT + a] = sort == SORT_TRUTH && v != 0 ? 1 : v;
        }

        int kindOf(int e) {
            return kinds[e];
        }

        /** The kind of an entity as a set of kinds: empty if it is not there. */
        int kindsOf(int e) {
            return isThere(e) ? 1 << kinds[e] : 0;
        }

        int sortOf(int e, int a) {
            return sorts[e * ATTRIBUTE_COUNT + a];
        }

        int valueOf(int e, int a) {
            return values[e * ATTRIBUTE_COUNT + a];
        }
    }

    /** Types as numbers: a sort, and for entities the set of kinds that they may be. */
    private static final class Types {
        private static final int NOTHING = 0;
        private static final int WRONG = -1;
        private static final int SORT_BITS = 2;

        private Types() {
        }

        static int plain(int sort) {
            return sort;
        }

        static int entityOf(int kinds) {
            return kinds << SORT_BITS | SORT_ENTITY;
        }

        static int sort(int type) {
            return type & (1 << SORT_BITS) - 1;
        }

        static int kinds(int type) {
            return type >> SORT_BITS;
        }
    }

    /** What is declared for each kind and attribute. */
    private static final class Declarations {
        private final int[] types = new int[KIND_COUNT * ATTRIBUTE_COUNT];
        private final boolean[] sures = new boolean[KIND_COUNT * ATTRIBUTE_COUNT];

        void put(int kind, int a, int type, boolean sure) {
            types[kind * ATTRIBUTE_COUNT + a] = type;
            sures[kind * ATTRIBUTE_COUNT + a] = sure;
        }

        int typeOf(int kind, int a) {
            return types[kind * ATTRIBUTE_COUNT + a];
        }

        boolean isSure(int kind, int a) {
            return sures[kind * ATTRIBUTE_COUNT + a];
        }

        /** The type that all of some kinds have declared alike, else WRONG. */
        int commonType(int kinds, int a) {
            int common = Types.NOTHING;
            for (int kind = 0; kind < KIND_COUNT; kind++) {
                if ((kinds >> kind & 1) != 0) {
                    int type = typeOf(kind, a);
                    if (type == Types.NOTHING || common != Types.NOTHING && common != type) {
                        return Types.WRONG;
                    }
                    common = type;
                }
            }
            return common == Types.NOTHING ? Types.WRONG : common;
        }

        boolean allSure(int kinds, int a) {
            for (int kind = 0; kind < KIND_COUNT; kind++) {
                if ((kinds >> kind & 1) != 0 && !isSure(kind, a)) {
                    return false;
                }
            }
            return true;
        }
    }

    /**
     * Tells how a policy is for a question. What a part is worth is a long: above its value
     * stands its sort, or the error, whose numbers go on behind those of the sorts.
     */
    private static final class Judge {
        private final Entities entities;
        private Policy policy;
        private int principal = 0;
        private int resource = 0;

        Judge(Entities entities, Policy first) {
            this.entities = entities;
            policy = first;
        }

        int verdictOn(Policy asked, int p, int action, int r) {
            policy = asked;
            principal = p;
            resource = r;
            if (!asked.fits(p, action, r, entities)) {
                return NOT_FITTING;
            }
            for (int c = 0; c < asked.conditionCount; c++) {
                long worth = truthOf(worthOf(asked.roots[c], 0));
                if (isError(worth)) {
                    return sort(worth);
                }
                if (value(worth) != (asked.wanted[c] ? 1 : 0)) {
                    return NOT_HELD;
                }
            }
            return HELD;
        }

        private long worthOf(int node, int level) {
            if (level > TREE_LEVELS) {
                return error(ERROR_TYPE);
            }
            int left = policy.lefts[node];
            int right = policy.rights[node];
            if (left == Policy.NO_NODE) {
                return worthOfLeaf(node);
            }
            long first = worthOf(left, level + 1);
            if (isError(first)) {
                return first;
            }
            if (right == Policy.NO_NODE) {
                return worthOfOne(node, first);
            }
            Sign sign = policy.signs[node];
            boolean logical = sign == Sign.AND || sign == Sign.OR;
            if (logical && isSaid(sign, first)) {
                return truthOf(first);
            }
            long second = worthOf(right, level + 1);
            if (isError(second)) {
                return second;
            }
            return logical ? truthOf(second) : worthOfTwo(sign, first, second);
        }

        /** Whether the left part of && or || leaves nothing to look at on the right. */
        private static boolean isSaid(Sign sign, long left) {
            return sort(left) != SORT_TRUTH || value(left) == (sign == Sign.OR ? 1 : 0);
        }

        private static long truthOf(long worth) {
            return isError(worth) || sort(worth) == SORT_TRUTH ? worth : error(ERROR_TYPE);
        }

        private long worthOfLeaf(int node) {
            switch (policy.signs[node]) {
                case TRUE:
                    return truth(true);
                case FALSE:
                    return truth(false);
                case P:
                    return worth(SORT_ENTITY, principal);
                case R:
                    return worth(SORT_ENTITY, resource);
                case ENTITY:
                    return worth(SORT_ENTITY, policy.numbers[node]);
                default:
                    return worth(SORT_NUMBER, policy.numbers[node]);
            }
        }

        private long worthOfOne(int node, long part) {
            int sort = sort(part);
            switch (policy.signs[node]) {
                case NOT:
                    return sort == SORT_TRUTH ? truth(value(part) == 0) : error(ERROR_TYPE);
                case MINUS:
                    return sort == SORT_NUMBER ? number(-(long) value(part)) : error(ERROR_TYPE);
                case HAS:
                    return sort == SORT_ENTITY
                            ? truth(entities.sortOf(value(part), policy.numbers[node]) != SORT_MISSING)
                            : error(ERROR_TYPE);
                default:
                    return sort == SORT_ENTITY ? attribute(value(part), policy.numbers[node]) : error(ERROR_TYPE);
            }
        }

        private long attribute(int e, int a) {
            int sort = entities.sortOf(e, a);
            return sort == SORT_MISSING ? error(ERROR_MISSING) : worth(sort, entities.valueOf(e, a));
        }

        private long worthOfTwo(Sign sign, long left, long right) {
            switch (sign) {
                case SAME:
                    return truth(left == right);
                case OTHER:
                    return truth(left != right);
                case IN:
                    return sort(left) == SORT_ENTITY && sort(right) == SORT_ENTITY
                            ? truth(entities.within(value(left), value(right))) : error(ERROR_TYPE);
                default:
                    return sort(left) == SORT_NUMBER && sort(right) == SORT_NUMBER
                            ? worthOfNumbers(sign, value(left), value(right)) : error(ERROR_TYPE);
            }
        }

        private static long worthOfNumbers(Sign sign, long left, long right) {
            switch (sign) {
                case LESS:
                    return truth(left < right);
                case AT_MOST:
                    return truth(left <= right);
                case PLUS:
                    return number(left + right);
                case MINUS:
                    return number(left - right);
                default:
                    return number(left * right);
            }
        }

        private static long number(long n) {
            return n == (int) n ? worth(SORT_NUMBER, (int) n) : error(ERROR_OVERFLOW);
        }

        private static long truth(boolean t) {
            return worth(SORT_TRUTH, t ? 1 : 0);
        }

        private static long error(int error) {
            return worth(error, 0);
        }

        private static long worth(int sort, int value) {
            return (long) sort << 32 | value & 0xffffffffL;
        }

        private static int sort(long worth) {
            return (int) (worth >>> 32);
        }

        private static int value(long worth) {
            return (int) worth;
        }

        private static boolean isError(long worth) {
            return sort(worth) >= ERROR_TYPE;
        }
    }

    /** Finds what is wrong in a policy before it is used. What is known is a set of bits. */
    private static final class Checker {
        private final Entities entities;
        private final Declarations declared;
        private Policy policy;
        private int wrongPlace = NONE;

        Checker(Entities entities, Declarations declared, Policy first) {
            this.entities = entities;
            this.declared = declared;
            policy = first;
        }

        int firstWrong(Policy checked) {
            policy = checked;
            int known = 0;
            for (int c = 0; c < checked.conditionCount; c++) {
                int root = checked.roots[c];
                int type = typeOf(root, known, 0);
                if (type == Types.WRONG) {
                    return wrongPlace;
                }
                if (type != Types.plain(SORT_TRUTH)) {
                    return checked.conditionPlaces[c];
                }
                known |= checked.wanted[c] ? madeKnown(root, 0) : 0;
            }
            return NONE;
        }

        private int typeOf(int node, int known, int level) {
            if (level > TREE_LEVELS) {
                return placed(node, Types.WRONG);
            }
            int left = policy.lefts[node];
            int right = policy.rights[node];
            if (left == Policy.NO_NODE) {
                return typeOfLeaf(node);
            }
            int first = typeOf(left, known, level + 1);
            if (first == Types.WRONG) {
                return Types.WRONG;
            }
            if (right == Policy.NO_NODE) {
                return placed(node, typeOfOne(node, first, known));
            }
            int more = policy.signs[node] == Sign.AND ? madeKnown(left, level + 1) : 0;
            int second = typeOf(right, known | more, level + 1);
            if (second == Types.WRONG) {
                return Types.WRONG;
            }
            return placed(node, typeOfTwo(policy.signs[node], first, second));
        }

        private int placed(int node, int type) {
            if (type == Types.WRONG) {
                wrongPlace = policy.places[node];
            }
            return type;
        }

        private int typeOfLeaf(int node) {
            switch (policy.signs[node]) {
                case TRUE:
                case FALSE:
                    return Types.plain(SORT_TRUTH);
                case P:
                    return Types.entityOf(policy.principal.kinds(entities));
                case R:
                    return Types.entityOf(policy.resource.kinds(entities));
                case ENTITY:
                    return Types.entityOf(entities.kindsOf(policy.numbers[node]));
                default:
                    return Types.plain(SORT_NUMBER);
            }
        }

        private int typeOfOne(int node, int part, int known) {
            int sort = Types.sort(part);
            switch (policy.signs[node]) {
                case NOT:
                    return sort == SORT_TRUTH ? part : Types.WRONG;
                case MINUS:
                    return sort == SORT_NUMBER ? part : Types.WRONG;
                case HAS:
                    return sort == SORT_ENTITY ? Types.plain(SORT_TRUTH) : Types.WRONG;
                default:
                    return sort == SORT_ENTITY ? typeOfAttribute(node, Types.kinds(part), known) : Types.WRONG;
            }
        }

        private int typeOfAttribute(int node, int kinds, int known) {
            int a = policy.numbers[node];
            boolean given = declared.allSure(kinds, a) || (known & knownBit(node)) != 0;
            return given ? declared.commonType(kinds, a) : Types.WRONG;
        }

        private static int typeOfTwo(Sign sign, int left, int right) {
            int sort = Types.sort(left);
            boolean same = sort == Types.sort(right);
            switch (sign) {
                case SAME:
                case OTHER:
                    return same ? Types.plain(SORT_TRUTH) : Types.WRONG;
                case AND:
                case OR:
                    return same && sort == SORT_TRUTH ? Types.plain(SORT_TRUTH) : Types.WRONG;
                case IN:
                    return same && sort == SORT_ENTITY ? Types.plain(SORT_TRUTH) : Types.WRONG;
                case LESS:
                case AT_MOST:
                    return same && sort == SORT_NUMBER ? Types.plain(SORT_TRUTH) : Types.WRONG;
                default:
                    return same && sort == SORT_NUMBER ? Types.plain(SORT_NUMBER) : Types.WRONG;
            }
        }

        /** What a part that is true makes known. */
        private int madeKnown(int node, int level) {
            Sign sign = policy.signs[node];
            if (sign == Sign.HAS) {
                return knownBit(node);
            }
            if (level > TREE_LEVELS || sign != Sign.AND && sign != Sign.OR) {
                return 0;
            }
            int left = madeKnown(policy.lefts[node], level + 1);
            int right = madeKnown(policy.rights[node], level + 1);
            return sign == Sign.AND ? left | right : left & right;
        }

        /** The bit for an attribute of p or r themselves; no bit for those of anything else. */
        private int knownBit(int node) {
            Sign of = policy.signs[policy.lefts[node]];
            int bit = 1 << policy.numbers[node];
            if (of == Sign.P) {
                return bit;
            }
            return of == Sign.R ? bit << ATTRIBUTE_COUNT : 0;
        }
    }
}
