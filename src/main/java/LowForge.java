import java.util.Arrays;
import java.util.NoSuchElementException;

/**
 * Compiles the text of a circuit with bundles, vectors and conditions down to one expression or
 * choice for each ground signal, and runs it clock by clock.
 */
public final class LowForge {
    private static final int LETTERS = 200;
    private static final int NAMES = 26;
    private static final int SIGNALS = 24;
    private static final int WIDEST = 16;
    private static final int CLOCKS = 40;
    private static final int NONE = -1;
    private static final int NOT_THROWN = -2;

    private static final int TYPES_DEEP = 3;
    private static final int EXPRS_DEEP = 6;
    private static final int CHOICES_DEEP = 3;
    private static final int REF_PARTS = 6;

    // Kinds of tokens and nodes that are no single character; every other kind is its character.
    private static final int END = 0;
    private static final int BAD = 1;
    private static final int NUMBER = 2;
    private static final int ARROW = 3;
    private static final int REFERENCE = 4;
    private static final int SIGNAL = 5;

    private static final int INPUT = 0;
    private static final int OUTPUT = 1;
    private static final int WIRE = 2;
    private static final int REGISTER = 3;
    private static final int NODE = 4;

    private static final int GROUND = 0;
    private static final int BUNDLE = 1;
    private static final int VECTOR = 2;

    // Rows of what is read are as long as the text: each type, field, step, part of a path and
    // node has a letter of its own there (a ? has four for its three steps).
    // Numbers of nodes begin behind those of the signals and NOTHING, so that one number tells
    // what a sink is; numbers of choices go on behind them.
    private static final int NOTHING = SIGNALS;
    private static final int FIRST_NODE = SIGNALS + 1;
    private static final int NODES = FIRST_NODE + LETTERS;

    // A ? that yields choices takes 4 letters and holds a step of 5, and a step stands in at most
    // 3 of them: in 200 letters there are at most 35, each with a choice for each signal at most.
    private static final int CHOICES = 35 * SIGNALS;

    // Stands beside the 24 bits of the signals that something depends on.
    private static final int UNSET = 1 << SIGNALS;

    private final char[] letters;
    private int length;
    private int place;
    private boolean compiled;
    private Circuit circuit;
    private Circuit spare;
    private final Tokens tokens;
    private final Parser parser;
    private final Checker checker;
    private final Sizer sizer;
    private final Lowering lowering;

    public LowForge() {
        letters = new char[LETTERS];
        length = 0;
        place = NOT_THROWN;
        compiled = false;
        circuit = new Circuit();
        spare = new Circuit();
        tokens = new Tokens();
        Types types = new Types();
        Steps steps = new Steps();
        Links links = new Links(types, steps);
        parser = new Parser(tokens, types, steps);
        checker = new Checker(types, steps, links);
        sizer = new Sizer(steps, links);
        lowering = new Lowering(steps, links);
    }

    public int text(long w) throws IllegalArgumentException, IllegalStateException {
        int more = lettersIn(w);
        if (more == NONE) {
            throw new IllegalArgumentException("a byte is no character of a text");
        }
        if (length + more > LETTERS) {
            throw new IllegalStateException("the text would be too long");
        }
        for (int shift = 56; shift >= 0; shift -= 8) {
            int letter = (int) (w >>> shift) & 255;
            if (letter != 0 && length < LETTERS) {
                letters[length] = (char) letter;
                length++;
            }
        }
        return length;
    }

    public int clear() {
        int had = length;
        length = 0;
        return had;
    }

    public int compile() throws IllegalArgumentException, UnsupportedOperationException,
            IllegalStateException, NoSuchElementException, ArithmeticException {
        tokens.scan(letters, length);
        place = parser.faultIn(spare.nodes);
        if (place != NONE) {
            throw new IllegalArgumentException("the text has a fault");
        }
        place = checker.typeErrorIn(spare);
        if (place != NONE) {
            throw new UnsupportedOperationException("the text has a type error");
        }
        if (!sizer.resolves(spare)) {
            // The place is NONE here, which is what the document asks of where.
            throw new IllegalStateException("a width is not resolved");
        }
        lowering.lower(spare);
        place = lowering.leastUnset(spare);
        if (place != NONE) {
            throw new NoSuchElementException("a sink is not connected on every path");
        }
        place = lowering.leastInLoop(spare);
        if (place != NONE) {
            throw new ArithmeticException("signals depend on one another in a loop");
        }
        place = NOT_THROWN;
        compiled = true;
        Circuit old = circuit;
        circuit = spare;
        spare = old;
        circuit.start();
        return circuit.signals.used;
    }

    public int where() {
        return place;
    }

    public int signal(int k, int what) throws IllegalArgumentException, IndexOutOfBoundsException {
        if (what < 0 || what > 3) {
            throw new IllegalArgumentException("there is no such property");
        }
        if (!circuit.has(k)) {
            throw new IndexOutOfBoundsException("there is no such ground signal");
        }
        Signals signals = circuit.signals;
        switch (what) {
            case 0:
                return signals.kind[k];
            case 1:
                return signals.width[k];
            case 2:
                return signals.sink[k] ? 1 : 0;
            default:
                return signals.name[k];
        }
    }

    public int depends(int k) throws IndexOutOfBoundsException {
        if (!circuit.has(k)) {
            throw new IndexOutOfBoundsException("there is no such ground signal");
        }
        return circuit.needs[k];
    }

    public int set(int k, int v) throws IndexOutOfBoundsException, UnsupportedOperationException {
        if (!circuit.has(k)) {
            throw new IndexOutOfBoundsException("there is no such ground signal");
        }
        if (!circuit.signals.isFree(k)) {
            throw new UnsupportedOperationException("the signal is not set from outside");
        }
        return circuit.put(k, v);
    }

    public int value(int k) throws IndexOutOfBoundsException {
        if (!circuit.has(k)) {
            throw new IndexOutOfBoundsException("there is no such ground signal");
        }
        return circuit.now[k];
    }

    public int clock(int n) throws IllegalArgumentException, IllegalStateException {
        if (n < 1 || n > CLOCKS) {
            throw new IllegalArgumentException("so many clocks are not run at once");
        }
        if (!compiled) {
            throw new IllegalStateException("nothing is compiled");
        }
        for (int i = 0; i < n; i++) {
            circuit.tick();
        }
        return circuit.clocks;
    }

    public double activity(int k) throws IndexOutOfBoundsException {
        if (!circuit.has(k)) {
            throw new IndexOutOfBoundsException("there is no such ground signal");
        }
        if (circuit.clocks == 0) {
            return 0.0;
        }
        return (double) circuit.changes[k] / (double) circuit.clocks;
    }

    public int count(int what) throws IllegalArgumentException {
        if (what < 0 || what > 5) {
            throw new IllegalArgumentException("there is no such count");
        }
        switch (what) {
            case 0:
                return length;
            case 1:
                return circuit.signals.used;
            case 2:
                return circuit.signals.sinks();
            case 3:
                return circuit.signals.registers();
            case 4:
                return circuit.connections;
            default:
                return circuit.signals.widthsTogether();
        }
    }

    /** How many letters the bytes of w are, or NONE if one of them is none. */
    private static int lettersIn(long w) {
        int found = 0;
        for (int shift = 56; shift >= 0; shift -= 8) {
            int letter = (int) (w >>> shift) & 255;
            if (letter != 0) {
                if (letter < 32 || letter > 126) {
                    return NONE;
                }
                found++;
            }
        }
        return found;
    }

    private static int maskOf(int width) {
        return (1 << width) - 1;
    }

    /** The tokens of a text and an end behind them. A number too great is BAD and fits nowhere. */
    private static final class Tokens {
        final int[] kind = new int[LETTERS + 1];
        final int[] at = new int[LETTERS + 1];
        final int[] number = new int[LETTERS + 1];
        private int used;

        void scan(char[] letters, int length) {
            used = 0;
            for (int i = 0; i < length; i++) {
                int letter = letters[i];
                int last = i > 0 ? letters[i - 1] : ' ';
                if (isDigit(letter) && isDigit(last)) {
                    growNumber(letter, i);
                } else if (letter == '=' && last == '<') {
                    kind[used - 1] = ARROW;
                } else if (letter != ' ') {
                    begin(letter, i);
                }
            }
            kind[used] = END;
            at[used] = length;
        }

        private void begin(int letter, int place) {
            at[used] = place;
            kind[used] = isDigit(letter) ? NUMBER : letter;
            number[used] = letter - '0';
            used++;
        }

        private void growNumber(int letter, int place) {
            int token = used - 1;
            // Beyond 65535 only that it is too much matters.
            number[token] = Math.min(number[token] * 10 + letter - '0', 65536);
            if (number[token] > 65535 || place - at[token] >= 5) {
                kind[token] = BAD;
            }
        }

        private static boolean isDigit(int letter) {
            return letter >= '0' && letter <= '9';
        }
    }

    /** The types of a text: U, bundles with a chain of fields, and vectors of one dimension. */
    private static final class Types {
        // Of nodes, which are declared without a type.
        static final int OF_NODES = 0;

        final int[] form = new int[LETTERS + 1];
        final int[] part = new int[LETTERS + 1];
        final int[] places = new int[LETTERS + 1];
        final int[] size = new int[LETTERS + 1];
        int used;

        final int[] fieldName = new int[LETTERS];
        final boolean[] fieldFlips = new boolean[LETTERS];
        final int[] fieldType = new int[LETTERS];
        final int[] fieldOffset = new int[LETTERS];
        final int[] nextField = new int[LETTERS];
        int fields;

        void empty() {
            used = 0;
            fields = 0;
            addGround(0);
        }

        int addGround(int width) {
            return add(GROUND, width, 0, 1);
        }

        int addVector(int element, int length) {
            return add(VECTOR, element, length, size[element] * length);
        }

        int addBundle(int firstField) {
            int together = 0;
            int field = firstField;
            for (int i = 0; i < fields && field != NONE; i++) {
                fieldOffset[field] = together;
                together += size[fieldType[field]];
                field = nextField[field];
            }
            return add(BUNDLE, firstField, 0, together);
        }

        private int add(int newForm, int newPart, int newPlaces, int newSize) {
            int type = used;
            form[type] = newForm;
            part[type] = newPart;
            places[type] = newPlaces;
            // One more than all is enough to refuse it, and cannot overflow.
            size[type] = Math.min(newSize, SIGNALS + 1);
            used++;
            return type;
        }

        int addField(int name, boolean flips, int type) {
            int field = fields;
            fieldName[field] = name;
            fieldFlips[field] = flips;
            fieldType[field] = type;
            nextField[field] = NONE;
            fields++;
            return field;
        }

        int fieldOf(int type, int name) {
            if (form[type] != BUNDLE) {
                return NONE;
            }
            int field = part[type];
            for (int i = 0; i < fields && field != NONE; i++) {
                if (fieldName[field] == name) {
                    return field;
                }
                field = nextField[field];
            }
            return NONE;
        }

        /** Whether both have the same fields and vectors, whatever their widths are. */
        boolean alike(int one, int other) {
            return typesAlike(one, other, 1);
        }

        private boolean typesAlike(int one, int other, int depth) {
            if (depth > TYPES_DEEP) {
                return false;
            }
            int a = one;
            int b = other;
            for (int i = 0; i < used && form[a] == VECTOR && form[b] == VECTOR; i++) {
                if (places[a] != places[b]) {
                    return false;
                }
                a = part[a];
                b = part[b];
            }
            if (form[a] != form[b]) {
                return false;
            }
            return form[a] == GROUND || fieldsAlike(part[a], part[b], depth);
        }

        private boolean fieldsAlike(int firstOne, int firstOther, int depth) {
            int a = firstOne;
            int b = firstOther;
            for (int i = 0; i < fields && a != NONE && b != NONE; i++) {
                if (fieldName[a] != fieldName[b] || fieldFlips[a] != fieldFlips[b]
                        || !typesAlike(fieldType[a], fieldType[b], depth + 1)) {
                    return false;
                }
                a = nextField[a];
                b = nextField[b];
            }
            return a == NONE && b == NONE;
        }
    }

    /**
     * The items and steps of a text in a row. Their kinds: I O W R with name and type; N with name
     * (its signal's number, once checked) and node; ARROW with the nodes of both sides; ? with its
     * node; : where the first steps of a ? end; } where it ends.
     */
    private static final class Steps {
        final int[] kind = new int[LETTERS];
        final int[] at = new int[LETTERS];
        final int[] left = new int[LETTERS];
        final int[] right = new int[LETTERS];
        int used;

        // What stands behind the names of REFs: places as they are, fields as fieldPart says.
        final int[] path = new int[LETTERS];
        int pathUsed;

        void empty() {
            used = 0;
            pathUsed = 0;
        }

        void add(int newKind, int newAt, int newLeft, int newRight) {
            kind[used] = newKind;
            at[used] = newAt;
            left[used] = newLeft;
            right[used] = newRight;
            used++;
        }

        void addPart(int part) {
            path[pathUsed] = part;
            pathUsed++;
        }

        /** Turns the name of a field into its part of a path, which is below 0, and back. */
        static int fieldPart(int name) {
            return -1 - name;
        }
    }

    /**
     * The nodes of expressions, parts before wholes, those of one expression side by side from
     * its first one on. NUMBER has its value on the left; T the bits in the middle and on the
     * right; REFERENCE its path's start, its path's length and its name; SIGNAL, which is a
     * REFERENCE that has been looked up, the number, the type and whether a ~ flips it.
     */
    private static final class Nodes {
        final int[] op = new int[NODES];
        final int[] left = new int[NODES];
        final int[] middle = new int[NODES];
        final int[] right = new int[NODES];
        final int[] first = new int[NODES];
        final int[] width = new int[NODES];
        final int[] held = new int[NODES];
        int used;

        void empty() {
            used = FIRST_NODE;
        }

        int addLeaf(int newOp, int newLeft, int newMiddle, int newRight) {
            int node = add(newOp, newLeft, newMiddle, newRight);
            first[node] = node;
            return node;
        }

        int addWhole(int newOp, int newLeft, int newMiddle, int newRight) {
            int node = add(newOp, newLeft, newMiddle, newRight);
            first[node] = first[newLeft];
            return node;
        }

        private int add(int newOp, int newLeft, int newMiddle, int newRight) {
            int node = used;
            op[node] = newOp;
            left[node] = newLeft;
            middle[node] = newMiddle;
            right[node] = newRight;
            used++;
            return node;
        }

        /** How many of left, middle and right are nodes. */
        static int partsOf(int op) {
            switch (op) {
                case '!':
                case 'T':
                    return 1;
                case '+':
                case '-':
                case '&':
                case '|':
                case '^':
                case '=':
                case '<':
                case '#':
                    return 2;
                case 'M':
                    return 3;
                default:
                    return 0;
            }
        }

        /** Finds the widths of all nodes from those of the signals: false if one is too wide. */
        boolean measure(int[] signalWidth) {
            for (int i = FIRST_NODE; i < used; i++) {
                width[i] = widthOf(i, signalWidth);
                if (width[i] > WIDEST) {
                    return false;
                }
            }
            return true;
        }

        private int widthOf(int node, int[] signalWidth) {
            switch (op[node]) {
                case NUMBER:
                    return bitsOf(left[node]);
                case SIGNAL:
                    return signalWidth[left[node]];
                case 'T':
                    return middle[node] - right[node] + 1;
                case '!':
                    return width[left[node]];
                case '=':
                case '<':
                    return 1;
                case '#':
                    return width[left[node]] + width[middle[node]];
                case '+':
                    return Math.max(width[left[node]], width[middle[node]]) + 1;
                case 'M':
                    return Math.max(width[middle[node]], width[right[node]]);
                default:
                    return Math.max(width[left[node]], width[middle[node]]);
            }
        }

        private static int bitsOf(int number) {
            int bits = 1;
            while (bits < WIDEST && number >> bits != 0) {
                bits++;
            }
            return bits;
        }

        int evaluate(int root, int[] now) {
            // Below the nodes that are read, a number is that of a signal.
            if (root < SIGNALS) {
                return now[root];
            }
            for (int i = first[root]; i <= root; i++) {
                held[i] = work(i, now) & maskOf(width[i]);
            }
            return held[root];
        }

        private int work(int node, int[] now) {
            if (op[node] == NUMBER) {
                return left[node];
            }
            if (op[node] == SIGNAL) {
                return now[left[node]];
            }
            int a = held[left[node]];
            if (op[node] == 'T') {
                return a >> right[node];
            }
            if (op[node] == '!') {
                return ~a;
            }
            int b = held[middle[node]];
            if (op[node] == 'M') {
                return a != 0 ? b : held[right[node]];
            }
            return join(node, a, b);
        }

        private int join(int node, int a, int b) {
            switch (op[node]) {
                case '+':
                    return a + b;
                case '-':
                    return a - b;
                case '&':
                    return a & b;
                case '|':
                    return a | b;
                case '^':
                    return a ^ b;
                case '=':
                    return a == b ? 1 : 0;
                case '<':
                    return a < b ? 1 : 0;
                default:
                    return a << width[middle[node]] | b;
            }
        }
    }

    /** The ground signals of a circuit. */
    private static final class Signals {
        final int[] kind = new int[SIGNALS];
        final int[] name = new int[SIGNALS];
        final int[] width = new int[SIGNALS];
        final boolean[] flipped = new boolean[SIGNALS];
        final boolean[] sink = new boolean[SIGNALS];
        // Whether it is a U alone, the width of which is found by its connections.
        final boolean[] grows = new boolean[SIGNALS];
        int used;

        void add(int newKind, int newName, int said, boolean flips) {
            kind[used] = newKind;
            name[used] = newName;
            width[used] = said;
            flipped[used] = flips;
            sink[used] = isSink(newKind, flips);
            grows[used] = said == 0 && newKind != NODE;
            used++;
        }

        private static boolean isSink(int kind, boolean flips) {
            if (kind == INPUT) {
                return flips;
            }
            if (kind == OUTPUT) {
                return !flips;
            }
            return kind == WIRE || kind == REGISTER;
        }

        /** Whether it is set from outside. */
        boolean isFree(int k) {
            return !sink[k] && kind[k] != NODE;
        }

        int sinks() {
            int found = 0;
            for (int k = 0; k < used; k++) {
                found += sink[k] ? 1 : 0;
            }
            return found;
        }

        int registers() {
            int found = 0;
            for (int k = 0; k < used; k++) {
                found += kind[k] == REGISTER ? 1 : 0;
            }
            return found;
        }

        int widthsTogether() {
            int together = 0;
            for (int k = 0; k < used; k++) {
                together += width[k];
            }
            return together;
        }
    }

    /** Reads the tokens into types, steps and nodes, up to the first fault. */
    private static final class Parser {
        private final Tokens tokens;
        private final Types types;
        private final Steps steps;
        private Nodes nodes;
        private int next;
        private int faultAt;
        private int depth;
        // Of each open ? whether its second steps are being read.
        private final boolean[] inSecond = new boolean[CHOICES_DEEP];

        Parser(Tokens tokens, Types types, Steps steps) {
            this.tokens = tokens;
            this.types = types;
            this.steps = steps;
        }

        /** The place of the fault, or NONE. */
        int faultIn(Nodes newNodes) {
            begin(newNodes);
            // An open ? makes the end one more item, which is found missing there.
            for (int i = 0; i <= LETTERS && faultAt == NONE && (depth > 0 || kind() != END); i++) {
                switch (kind()) {
                    case '?':
                        openChoice();
                        break;
                    case '}':
                        closeSteps();
                        break;
                    case 'I':
                    case 'O':
                    case 'W':
                    case 'R':
                        declaration();
                        break;
                    case 'N':
                        node();
                        break;
                    default:
                        connection();
                        break;
                }
            }
            return faultAt;
        }

        private void begin(Nodes newNodes) {
            nodes = newNodes;
            nodes.empty();
            types.empty();
            steps.empty();
            next = 0;
            faultAt = NONE;
            depth = 0;
        }

        private void declaration() {
            if (depth > 0) {
                fail();
                return;
            }
            int letter = kind();
            int at = tokens.at[next];
            next++;
            int name = name();
            int type = name != NONE && take(':') ? type(1) : NONE;
            if (type != NONE && take(';')) {
                steps.add(letter, at, name, type);
            }
        }

        private void node() {
            if (depth > 0) {
                fail();
                return;
            }
            int at = tokens.at[next];
            next++;
            int name = name();
            int root = name != NONE && take('=') ? expr(1) : NONE;
            if (root != NONE && take(';')) {
                steps.add('N', at, name, root);
            }
        }

        private void connection() {
            int at = tokens.at[next];
            int left = reference();
            int right = left != NONE && take(ARROW) ? expr(1) : NONE;
            if (right != NONE && take(';')) {
                steps.add(ARROW, at, left, right);
            }
        }

        private void openChoice() {
            if (depth == CHOICES_DEEP) {
                fail();
                return;
            }
            int at = tokens.at[next];
            next++;
            int root = expr(1);
            if (root != NONE && take('{')) {
                steps.add('?', at, root, 0);
                inSecond[depth] = false;
                depth++;
            }
        }

        private void closeSteps() {
            if (depth == 0) {
                fail();
                return;
            }
            int at = tokens.at[next];
            next++;
            if (!inSecond[depth - 1]) {
                steps.add(':', at, 0, 0);
                if (kind() == ':') {
                    next++;
                    inSecond[depth - 1] = true;
                    take('{');
                    return;
                }
            }
            steps.add('}', at, 0, 0);
            depth--;
        }

        private int type(int deep) {
            if (deep > TYPES_DEEP) {
                return fail();
            }
            int type;
            if (kind() == 'U') {
                type = groundType();
            } else if (kind() == '{') {
                type = bundle(deep);
            } else {
                return fail();
            }
            for (int i = 0; i < LETTERS && type != NONE && kind() == '['; i++) {
                type = vectorOf(type);
            }
            return type;
        }

        private int groundType() {
            next++;
            if (kind() != NUMBER) {
                return types.addGround(0);
            }
            int width = number(1, WIDEST);
            return width == NONE ? NONE : types.addGround(width);
        }

        private int vectorOf(int element) {
            next++;
            int length = number(1, 4);
            if (length == NONE || !take(']')) {
                return NONE;
            }
            return types.addVector(element, length);
        }

        private int bundle(int deep) {
            int first = NONE;
            int last = NONE;
            for (int i = 0; i < LETTERS && (i == 0 || kind() == ','); i++) {
                // Over the { or the , before the field.
                next++;
                int field = field(deep);
                if (field == NONE) {
                    return NONE;
                }
                if (last == NONE) {
                    first = field;
                } else {
                    types.nextField[last] = field;
                }
                last = field;
            }
            return take('}') ? types.addBundle(first) : NONE;
        }

        private int field(int deep) {
            int name = name();
            if (name == NONE) {
                return NONE;
            }
            boolean flips = kind() == '~';
            if (flips) {
                next++;
            }
            if (!take(':')) {
                return NONE;
            }
            int type = type(deep + 1);
            return type == NONE ? NONE : types.addField(name, flips, type);
        }

        private int expr(int deep) {
            if (deep > EXPRS_DEEP) {
                return fail();
            }
            if (kind() == NUMBER) {
                return nodes.addLeaf(NUMBER, number(0, 65535), 0, 0);
            }
            int parts = Nodes.partsOf(kind());
            return parts == 0 ? reference() : operation(parts, deep);
        }

        private int operation(int parts, int deep) {
            int op = kind();
            next++;
            if (!take('(')) {
                return NONE;
            }
            int left = expr(deep + 1);
            if (left == NONE) {
                return NONE;
            }
            int middle = 0;
            int right = 0;
            if (op == 'T') {
                middle = take(',') ? number(0, WIDEST - 1) : NONE;
                right = middle != NONE && take(',') ? number(0, middle) : NONE;
            }
            if (parts > 1) {
                middle = take(',') ? expr(deep + 1) : NONE;
            }
            if (parts > 2) {
                right = middle != NONE && take(',') ? expr(deep + 1) : NONE;
            }
            if (middle == NONE || right == NONE || !take(')')) {
                return NONE;
            }
            return nodes.addWhole(op, left, middle, right);
        }

        private int reference() {
            int start = steps.pathUsed;
            int name = name();
            if (name == NONE) {
                return NONE;
            }
            // A seventh part is left there: a . or [ fits nowhere behind a reference.
            for (int i = 0; i < REF_PARTS && (kind() == '.' || kind() == '['); i++) {
                boolean isPlace = kind() == '[';
                next++;
                int part = isPlace ? number(0, 65535) : name();
                if (part == NONE || isPlace && !take(']')) {
                    return NONE;
                }
                steps.addPart(isPlace ? part : Steps.fieldPart(part));
            }
            return nodes.addLeaf(REFERENCE, start, steps.pathUsed - start, name);
        }

        private int kind() {
            return tokens.kind[next];
        }

        private int name() {
            int letter = kind();
            if (letter < 'a' || letter > 'z') {
                return fail();
            }
            next++;
            return letter - 'a';
        }

        private int number(int least, int most) {
            int found = tokens.number[next];
            if (kind() != NUMBER || found < least || found > most) {
                return fail();
            }
            next++;
            return found;
        }

        private boolean take(int wanted) {
            if (kind() != wanted) {
                fail();
                return false;
            }
            next++;
            return true;
        }

        private int fail() {
            faultAt = tokens.at[next];
            return NONE;
        }
    }

    /** Declares signals and looks names up, up to the first type error. */
    private static final class Checker {
        private final Types types;
        private final Steps steps;
        private final Links links;
        private final int[] firstSignal = new int[NAMES];
        private final int[] typeOf = new int[NAMES];
        private Signals signals;
        private Nodes nodes;

        Checker(Types types, Steps steps, Links links) {
            this.types = types;
            this.steps = steps;
            this.links = links;
        }

        /** The place of the first item or step with a type error, or NONE. */
        int typeErrorIn(Circuit circuit) {
            signals = circuit.signals;
            nodes = circuit.nodes;
            signals.used = 0;
            circuit.connections = 0;
            Arrays.fill(firstSignal, NONE);
            for (int step = 0; step < steps.used; step++) {
                if (!stands(step)) {
                    return steps.at[step];
                }
                if (steps.kind[step] == ARROW) {
                    if (!connectsSinks(circuit, step)) {
                        return steps.at[step];
                    }
                    circuit.connections += links.pairsOf(circuit, step);
                }
            }
            return NONE;
        }

        private boolean stands(int step) {
            switch (steps.kind[step]) {
                case ARROW:
                    return matches(steps.left[step], steps.right[step]);
                case '?':
                    return isGroundExpr(steps.left[step]);
                case ':':
                case '}':
                    return true;
                case 'N':
                    return declaresNode(step);
                default:
                    return declares(step);
            }
        }

        private boolean declares(int step) {
            int name = steps.left[step];
            int type = steps.right[step];
            if (!mayDeclare(name, types.size[type])) {
                return false;
            }
            firstSignal[name] = signals.used;
            typeOf[name] = type;
            expand(kindOf(steps.kind[step]), name, type, false, 1);
            return true;
        }

        private boolean declaresNode(int step) {
            int name = steps.left[step];
            if (!mayDeclare(name, 1) || !isGroundExpr(steps.right[step])) {
                return false;
            }
            firstSignal[name] = signals.used;
            typeOf[name] = Types.OF_NODES;
            steps.left[step] = signals.used;
            signals.add(NODE, name, 0, false);
            return true;
        }

        private boolean mayDeclare(int name, int size) {
            return firstSignal[name] == NONE && signals.used + size <= SIGNALS;
        }

        private static int kindOf(int letter) {
            switch (letter) {
                case 'I':
                    return INPUT;
                case 'O':
                    return OUTPUT;
                case 'W':
                    return WIRE;
                default:
                    return REGISTER;
            }
        }

        private void expand(int kind, int name, int type, boolean flips, int deep) {
            if (deep > TYPES_DEEP) {
                return;
            }
            int base = type;
            int copies = 1;
            for (int i = 0; i < types.used && types.form[base] == VECTOR; i++) {
                copies *= types.places[base];
                base = types.part[base];
            }
            for (int copy = 0; copy < copies; copy++) {
                if (types.form[base] == GROUND) {
                    signals.add(kind, name, types.part[base], flips);
                } else {
                    expandFields(kind, name, types.part[base], flips, deep);
                }
            }
        }

        private void expandFields(int kind, int name, int first, boolean flips, int deep) {
            int field = first;
            for (int i = 0; i < types.fields && field != NONE; i++) {
                expand(kind, name, types.fieldType[field], flips != types.fieldFlips[field],
                        deep + 1);
                field = types.nextField[field];
            }
        }

        private boolean isGroundExpr(int root) {
            for (int i = nodes.first[root]; i <= root; i++) {
                if (nodes.op[i] == REFERENCE && !(lookUp(i) && isGround(i))) {
                    return false;
                }
            }
            return true;
        }

        private boolean isGround(int reference) {
            return types.form[nodes.middle[reference]] == GROUND;
        }

        private boolean matches(int left, int right) {
            if (!lookUp(left)) {
                return false;
            }
            if (nodes.op[right] != REFERENCE) {
                return isGround(left) && isGroundExpr(right);
            }
            return lookUp(right) && types.alike(nodes.middle[left], nodes.middle[right]);
        }

        private boolean connectsSinks(Circuit circuit, int step) {
            int pairs = links.pairsOf(circuit, step);
            for (int i = 0; i < pairs; i++) {
                if (!signals.sink[links.sinkOf(circuit, step, i)]) {
                    return false;
                }
            }
            return true;
        }

        /** Turns a REFERENCE into a SIGNAL: false if there is nothing under its name and path. */
        private boolean lookUp(int node) {
            int name = nodes.right[node];
            if (firstSignal[name] == NONE) {
                return false;
            }
            int at = firstSignal[name];
            int type = typeOf[name];
            boolean flips = false;
            int end = nodes.left[node] + nodes.middle[node];
            for (int i = nodes.left[node]; i < end; i++) {
                int part = steps.path[i];
                if (part >= 0) {
                    if (types.form[type] != VECTOR || part >= types.places[type]) {
                        return false;
                    }
                    type = types.part[type];
                    at += part * types.size[type];
                } else {
                    int field = types.fieldOf(type, Steps.fieldPart(part));
                    if (field == NONE) {
                        return false;
                    }
                    type = types.fieldType[field];
                    at += types.fieldOffset[field];
                    flips = flips != types.fieldFlips[field];
                }
            }
            nodes.op[node] = SIGNAL;
            nodes.left[node] = at;
            nodes.middle[node] = type;
            nodes.right[node] = flips ? 1 : 0;
            return true;
        }
    }

    /** What a step with an ARROW connects: pairs of a sink and the node that it is to be. */
    private static final class Links {
        private final Types types;
        private final Steps steps;

        Links(Types types, Steps steps) {
            this.types = types;
            this.steps = steps;
        }

        int pairsOf(Circuit circuit, int step) {
            return types.size[circuit.nodes.middle[steps.left[step]]];
        }

        int sinkOf(Circuit circuit, int step, int pair) {
            int end = goesBack(circuit, step, pair) ? steps.right[step] : steps.left[step];
            return circuit.nodes.left[end] + pair;
        }

        int sourceOf(Circuit circuit, int step, int pair) {
            if (circuit.nodes.op[steps.right[step]] != SIGNAL) {
                return steps.right[step];
            }
            int end = goesBack(circuit, step, pair) ? steps.left[step] : steps.right[step];
            return circuit.nodes.left[end] + pair;
        }

        private boolean goesBack(Circuit circuit, int step, int pair) {
            int left = steps.left[step];
            // The ~ on the way to the reference itself are not on the way from it.
            boolean flips = circuit.nodes.right[left] == 1;
            return circuit.signals.flipped[circuit.nodes.left[left] + pair] != flips;
        }
    }

    /** Finds the widths that are not said. */
    private static final class Sizer {
        // Each round but the last one makes a signal wider.
        private static final int ROUNDS = SIGNALS * WIDEST + 1;

        private final Steps steps;
        private final Links links;

        Sizer(Steps steps, Links links) {
            this.steps = steps;
            this.links = links;
        }

        boolean resolves(Circuit circuit) {
            int[] width = circuit.signals.width;
            boolean wider = true;
            for (int round = 0; round < ROUNDS && wider; round++) {
                if (!circuit.nodes.measure(width)) {
                    return false;
                }
                wider = widen(circuit);
            }
            for (int k = 0; k < circuit.signals.used; k++) {
                if (width[k] == 0) {
                    return false;
                }
            }
            return true;
        }

        private boolean widen(Circuit circuit) {
            boolean wider = false;
            for (int step = 0; step < steps.used; step++) {
                if (steps.kind[step] == 'N') {
                    wider |= raise(circuit, steps.left[step], steps.right[step]);
                } else if (steps.kind[step] == ARROW) {
                    wider |= widenSinks(circuit, step);
                }
            }
            return wider;
        }

        private boolean widenSinks(Circuit circuit, int step) {
            boolean wider = false;
            int pairs = links.pairsOf(circuit, step);
            for (int i = 0; i < pairs; i++) {
                int sink = links.sinkOf(circuit, step, i);
                if (circuit.signals.grows[sink]) {
                    wider |= raise(circuit, sink, links.sourceOf(circuit, step, i));
                }
            }
            return wider;
        }

        private static boolean raise(Circuit circuit, int k, int source) {
            int[] width = circuit.signals.width;
            int least = source < SIGNALS ? width[source] : circuit.nodes.width[source];
            if (least <= width[k]) {
                return false;
            }
            width[k] = least;
            return true;
        }
    }

    /** Turns steps into what each sink is at last: a node, or a choice, numbered behind nodes. */
    private static final class Lowering {
        private final Steps steps;
        private final Links links;
        // Of nodes and choices the signals in them, and UNSET if a path leads to NOTHING.
        private final int[] needs = new int[NODES + CHOICES];
        private final int[] state = new int[SIGNALS];
        private final int[][] before = new int[CHOICES_DEEP][SIGNALS];
        private final int[][] behindFirst = new int[CHOICES_DEEP][SIGNALS];
        private final int[] asked = new int[CHOICES_DEEP];
        private final int[] touchedBefore = new int[CHOICES_DEEP];
        private final int[] reach = new int[SIGNALS];
        private int depth;
        private int touched;

        Lowering(Steps steps, Links links) {
            this.steps = steps;
            this.links = links;
        }

        void lower(Circuit circuit) {
            findNeedsOfNodes(circuit.nodes);
            begin(circuit);
            for (int step = 0; step < steps.used; step++) {
                switch (steps.kind[step]) {
                    case ARROW:
                        connect(circuit, step);
                        break;
                    case 'N':
                        circuit.form[steps.left[step]] = steps.right[step];
                        break;
                    case '?':
                        open(steps.left[step]);
                        break;
                    case ':':
                        turn();
                        break;
                    case '}':
                        close(circuit);
                        break;
                    default:
                        break;
                }
            }
            finish(circuit);
        }

        private void findNeedsOfNodes(Nodes nodes) {
            for (int k = 0; k < SIGNALS; k++) {
                needs[k] = 1 << k;
            }
            needs[NOTHING] = UNSET;
            for (int i = FIRST_NODE; i < nodes.used; i++) {
                int parts = Nodes.partsOf(nodes.op[i]);
                int found = nodes.op[i] == SIGNAL ? 1 << nodes.left[i] : 0;
                found |= parts > 0 ? needs[nodes.left[i]] : 0;
                found |= parts > 1 ? needs[nodes.middle[i]] : 0;
                found |= parts > 2 ? needs[nodes.right[i]] : 0;
                needs[i] = found;
            }
        }

        private void begin(Circuit circuit) {
            depth = 0;
            touched = 0;
            circuit.choices = 0;
            for (int k = 0; k < SIGNALS; k++) {
                boolean stays = k < circuit.signals.used && circuit.signals.kind[k] == REGISTER;
                state[k] = stays ? k : NOTHING;
            }
        }

        private void connect(Circuit circuit, int step) {
            int pairs = links.pairsOf(circuit, step);
            for (int i = 0; i < pairs; i++) {
                int sink = links.sinkOf(circuit, step, i);
                state[sink] = links.sourceOf(circuit, step, i);
                touched |= 1 << sink;
            }
        }

        private void open(int root) {
            asked[depth] = root;
            System.arraycopy(state, 0, before[depth], 0, SIGNALS);
            touchedBefore[depth] = touched;
            touched = 0;
            depth++;
        }

        private void turn() {
            System.arraycopy(state, 0, behindFirst[depth - 1], 0, SIGNALS);
            System.arraycopy(before[depth - 1], 0, state, 0, SIGNALS);
        }

        private void close(Circuit circuit) {
            depth--;
            for (int k = 0; k < SIGNALS; k++) {
                if ((touched >> k & 1) == 1) {
                    int first = behindFirst[depth][k];
                    int choice = circuit.addChoice(asked[depth], first, state[k]);
                    needs[choice] = needs[asked[depth]] | needs[first] | needs[state[k]];
                    state[k] = choice;
                }
            }
            touched |= touchedBefore[depth];
        }

        private void finish(Circuit circuit) {
            for (int k = 0; k < circuit.signals.used; k++) {
                if (circuit.signals.sink[k]) {
                    circuit.form[k] = state[k];
                }
                circuit.needs[k] = circuit.signals.isFree(k) ? 0 : needs[circuit.form[k]];
            }
        }

        /** The least sink that is not connected on every path, or NONE. */
        int leastUnset(Circuit circuit) {
            for (int k = 0; k < circuit.signals.used; k++) {
                if ((circuit.needs[k] & UNSET) != 0) {
                    return k;
                }
            }
            return NONE;
        }

        /** The least signal in a loop, or NONE. */
        int leastInLoop(Circuit circuit) {
            int used = circuit.signals.used;
            for (int k = 0; k < used; k++) {
                // A register ends every row of signals that leads to it.
                reach[k] = circuit.signals.kind[k] == REGISTER ? 0 : circuit.needs[k];
            }
            for (int over = 0; over < used; over++) {
                for (int k = 0; k < used; k++) {
                    if ((reach[k] >> over & 1) == 1) {
                        reach[k] |= reach[over];
                    }
                }
            }
            for (int k = 0; k < used; k++) {
                if ((reach[k] >> k & 1) == 1) {
                    return k;
                }
            }
            return NONE;
        }
    }

    /** A circuit in its low form, and how it runs. */
    private static final class Circuit {
        final Signals signals = new Signals();
        final Nodes nodes = new Nodes();
        int connections;

        private final int[] asked = new int[CHOICES];
        private final int[] ifNotZero = new int[CHOICES];
        private final int[] ifZero = new int[CHOICES];
        int choices;

        final int[] form = new int[SIGNALS];
        final int[] needs = new int[SIGNALS];
        private final int[] order = new int[SIGNALS];
        private int ordered;

        final int[] now = new int[SIGNALS];
        final int[] changes = new int[SIGNALS];
        private final int[] before = new int[SIGNALS];
        private final int[] coming = new int[SIGNALS];
        int clocks;

        boolean has(int k) {
            return k >= 0 && k < signals.used;
        }

        int addChoice(int root, int first, int second) {
            int choice = choices;
            asked[choice] = root;
            ifNotZero[choice] = first;
            ifZero[choice] = second;
            choices++;
            return NODES + choice;
        }

        void start() {
            clocks = 0;
            Arrays.fill(now, 0);
            Arrays.fill(before, 0);
            Arrays.fill(changes, 0);
            findOrder();
            settle();
        }

        /** Puts the signals that are worked out behind those that they depend on. */
        private void findOrder() {
            int known = 0;
            for (int k = 0; k < signals.used; k++) {
                if (signals.isFree(k) || signals.kind[k] == REGISTER) {
                    known |= 1 << k;
                }
            }
            ordered = 0;
            for (int round = 0; round < signals.used; round++) {
                for (int k = 0; k < signals.used; k++) {
                    if ((known >> k & 1) == 0 && (needs[k] & ~known) == 0) {
                        order[ordered] = k;
                        ordered++;
                        known |= 1 << k;
                    }
                }
            }
        }

        private void settle() {
            for (int i = 0; i < ordered; i++) {
                now[order[i]] = resultOf(order[i]);
            }
        }

        private int resultOf(int k) {
            int found = form[k];
            for (int i = 0; i < choices && found >= NODES; i++) {
                int choice = found - NODES;
                boolean isFirst = nodes.evaluate(asked[choice], now) != 0;
                found = isFirst ? ifNotZero[choice] : ifZero[choice];
            }
            return nodes.evaluate(found, now) & maskOf(signals.width[k]);
        }

        int put(int k, int v) {
            int had = now[k];
            now[k] = v & maskOf(signals.width[k]);
            settle();
            return had;
        }

        void tick() {
            for (int k = 0; k < signals.used; k++) {
                if (now[k] != before[k]) {
                    changes[k]++;
                }
                before[k] = now[k];
            }
            // All at once: none may take what another one has taken with this clock.
            for (int k = 0; k < signals.used; k++) {
                coming[k] = signals.kind[k] == REGISTER ? resultOf(k) : now[k];
            }
            System.arraycopy(coming, 0, now, 0, signals.used);
            settle();
            clocks++;
        }
    }
}
