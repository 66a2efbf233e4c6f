import java.math.BigInteger;
import java.util.ArrayList;
import java.util.Arrays;
import java.util.List;
import java.util.Random;
import java.util.TreeSet;
import java.util.function.ToLongFunction;

/**
 * Drawn runs of calls, each answer compared with that of a second program, which is written from the
 * document in the plainest way: whole copies of the state, trees of functions, every way and set tried.
 */
public final class ReferenceTest {
    private static final int RUNS = 700;
    private static final int CALLS = 350;
    private static int wrong = 0;

    public static void main(String[] args) {
        Random random = new Random(20261118);
        for (int run = 0; run < RUNS && wrong < 20; run++) {
            new Run(run, random).play();
        }
        System.out.println(wrong == 0 ? "both programs answer alike" : wrong + " answers are not alike");
        if (wrong != 0) {
            System.exit(1);
        }
    }

    /** One run: texts that are mostly sound, then calls with arguments that mostly are. */
    private static final class Run {
        final int number;
        final Random random;
        final FallSchool school = new FallSchool();
        final Reference reference = new Reference();
        int calls = 0;

        Run(int number, Random random) {
            this.number = number;
            this.random = random;
        }

        void play() {
            for (int i = 0; i < 3; i++) {
                tellRule();
            }
            tellGround();
            while (calls < CALLS) {
                int pick = random.nextInt(100);
                if (pick < 2) {
                    tellGround();
                } else if (pick < 4) {
                    tellRule();
                } else if (pick < 40) {
                    act();
                } else if (pick == 40) {
                    actAndUndo();
                } else {
                    ask();
                }
            }
        }

        void tellGround() {
            String text = groundText();
            tell(text);
            same("ground() of '" + text + "'", school.ground(), reference.ground());
        }

        void tellRule() {
            String text = ruleText();
            tell(text);
            same("rule() of '" + text + "'", school.rule(), reference.rule());
        }

        void tell(String whole) {
            String text = whole.length() > 400 ? whole.substring(0, 400) : whole;
            same("end(0)", school.end(0), reference.end(0));
            for (int start = 0; start < text.length(); start += 20) {
                int[] five = new int[5];
                for (int i = 0; i < 20; i++) {
                    int sign = start + i < text.length() ? text.charAt(start + i) : random.nextInt(256);
                    five[i / 4] = five[i / 4] << 8 | sign;
                }
                same("feed", school.feed(five[0], five[1], five[2], five[3], five[4]), reference.feed(five));
            }
            same("end", school.end(text.length()), reference.end(text.length()));
        }

        /** More acts than can be undone, perhaps an image among them, and then all undone one by one. */
        void actAndUndo() {
            for (int i = 10 + random.nextInt(60); i > 0; i--) {
                act();
            }
            for (int i = 0; i < 21; i++) {
                same("undo()", school.undo(), reference.undo());
                int thing = random.nextInt(8);
                int person = random.nextInt(5);
                same("count(9)", school.count(9), reference.count(9));
                same("thing(" + thing + ", 0)", school.thing(thing, 0), reference.thing(thing, 0));
                same("person(" + person + ", 0)", school.person(person, 0), reference.person(person, 0));
            }
        }

        void act() {
            int a = near(5);
            int b = near(5);
            int thing = near(8);
            int cell = near(50);
            boolean flag = random.nextBoolean();
            switch (random.nextInt(12)) {
                case 0, 1, 2, 11 -> same("fall(" + a + ", " + b + ")", school.fall(a, b), reference.fall(a, b));
                case 3 -> same("walk(" + a + ", " + b + ")", school.walk(a, b), reference.walk(a, b));
                case 4 -> same("put(" + thing + ", " + cell + ")", school.put(thing, cell), reference.put(thing, cell));
                case 5 -> same("mend(" + thing + ")", school.mend(thing) ? 1 : 0, reference.mend(thing) ? 1 : 0);
                case 6 -> same("undo()", school.undo(), reference.undo());
                case 7 -> same("force(" + (a - 1) + ")", school.force(a - 1), reference.force(a - 1));
                case 8 -> same("clue(" + thing + ", " + flag + ")", school.clue(thing, flag), reference.clue(thing, flag));
                case 9 -> {
                    int x = random.nextInt() >> random.nextInt(3);
                    same("seed(" + x + ")", school.seed(x), reference.seed(x));
                }
                default -> {
                    if (flag) {
                        same("image(" + a + ")", school.image(a), reference.image(a));
                    } else {
                        same("back(" + a + ")", school.back(a), reference.back(a));
                    }
                }
            }
        }

        void ask() {
            int a = near(5);
            int b = near(5);
            int c = near(5);
            int cell = near(49);
            int other = near(49);
            switch (random.nextInt(16)) {
                case 0 -> {
                    int what = near(7);
                    same("cell(" + cell + ", " + what + ")", school.cell(cell, what), reference.cell(cell, what));
                }
                case 1 -> same("person(" + a + ", " + b + ")", school.person(a, b), reference.person(a, b));
                case 2 -> same("thing(" + a + ", " + b + ")", school.thing(a, b), reference.thing(a, b));
                case 3, 4 -> same("would(" + a + ", " + b + ", " + c + ")", school.would(a, b, c), reference.would(a, b, c));
                case 5 -> same("lean(" + a + ")", school.lean(a), reference.lean(a));
                case 6 -> {
                    int what = random.nextInt(12) - 3;
                    same("way(" + a + ", " + what + ")", school.way(a, what), reference.way(a, what));
                }
                case 7 -> same("from(" + a + ", " + (b - 1) + ")", school.from(a, b - 1), reference.from(a, b - 1));
                case 8 -> same("shard(" + a + ", " + (b - 1) + ")", school.shard(a, b - 1), reference.shard(a, b - 1));
                case 9 -> {
                    if (random.nextInt(4) == 0) {
                        same("trays(" + b + ", " + c + ")", school.trays(b, c), reference.trays(b, c));
                    }
                }
                case 10 -> same("game(" + cell + ", " + b + ")", school.game(cell, b), reference.game(cell, b));
                case 11 -> same("chance(" + cell + ", " + other + ", " + b + ")",
                        school.chance(cell, other, b), reference.chance(cell, other, b));
                case 12 -> {
                    int price = random.nextInt(4) == 0 ? near(62) : near(10);
                    same("insure(" + a + ", " + price + ")", school.insure(a, price), reference.insure(a, price));
                }
                case 13 -> {
                    int k = near(9);
                    same("lesson(" + k + ")", school.lesson(k), reference.lesson(k));
                    same("order(" + k + ")", school.order(k), reference.order(k));
                }
                case 14 -> {
                    int m = near(random.nextInt(3) == 0 ? 22 : 4);
                    int n = near(random.nextInt(3) == 0 ? 42 : 5);
                    same("terms(" + m + ", " + n + ", " + b + ")", school.terms(m, n, b), reference.terms(m, n, b));
                }
                default -> {
                    int what = near(14);
                    same("count(" + what + ")", school.count(what), reference.count(what));
                }
            }
        }

        /** Mostly 0 to most, now and then a little or far outside. */
        int near(int most) {
            int pick = random.nextInt(40);
            if (pick == 0) {
                return -1 - random.nextInt(3);
            }
            if (pick == 1) {
                return most + 1 + random.nextInt(3);
            }
            if (pick == 2) {
                return random.nextInt();
            }
            return random.nextInt(most + 1);
        }

        void same(String call, long got, long due) {
            calls++;
            if (got != due) {
                wrong++;
                System.out.println("run " + number + ", call " + calls + ": " + call + " answered " + got + ", due is " + due);
            }
        }

        String groundText() {
            int columns = 2 + random.nextInt(7);
            int rows = 2 + random.nextInt(5);
            if (random.nextInt(3) == 0) {
                columns = 2 + random.nextInt(2);
                rows = 2;
            }
            int cells = columns * rows;
            List<String> clauses = new ArrayList<>();
            clauses.add("ground " + columns + " " + rows);
            int steep = 1 + random.nextInt(10);
            boolean isSlope = random.nextInt(3) == 0;
            for (int row = 0; row < rows - (random.nextInt(5) == 0 ? 1 : 0); row++) {
                StringBuilder digits = new StringBuilder("row ");
                for (int column = 0; column < columns; column++) {
                    digits.append(isSlope ? Math.max(0, 9 - row - column) : random.nextInt(steep));
                }
                clauses.add(digits.toString());
            }
            int people = random.nextInt(6);
            for (int i = 0; i < people; i++) {
                clauses.add("person " + random.nextInt(cells) + " " + random.nextInt(random.nextInt(3) == 0 ? 10 : 3));
            }
            for (int i = random.nextInt(9); i > 0; i--) {
                int owner = random.nextInt(people + 1);
                clauses.add("thing " + random.nextInt(cells) + " " + (owner == people ? 9 : owner) + " "
                        + (1 + random.nextInt(random.nextInt(3) == 0 ? 30 : 9)) + " " + random.nextInt(61));
            }
            addNets(clauses, cells);
            addLessons(clauses);
            return joined(clauses);
        }

        void addNets(List<String> clauses, int cells) {
            TreeSet<Integer> nets = new TreeSet<>();
            for (int i = random.nextInt(4); i > 0; i--) {
                nets.add(random.nextInt(cells));
            }
            for (int net : nets) {
                clauses.add("net " + net);
            }
        }

        void addLessons(List<String> clauses) {
            int lessons = random.nextInt(9);
            for (int i = 0; i < lessons; i++) {
                clauses.add("lesson " + (1 + random.nextInt(20)));
            }
            if (lessons > 1) {
                for (int i = random.nextInt(9); i > 0; i--) {
                    int first = random.nextInt(lessons);
                    int second = random.nextInt(lessons);
                    if (first != second) {
                        boolean swap = first < second && random.nextInt(4) != 0;
                        clauses.add("after " + (swap ? second : first) + " " + (swap ? first : second));
                    }
                }
            }
        }

        String ruleText() {
            List<String> clauses = new ArrayList<>();
            for (int i = random.nextInt(4) + (random.nextInt(20) == 0 ? 10 : 0); i >= 0; i--) {
                if (random.nextBoolean()) {
                    clauses.add("break " + test(2));
                } else {
                    clauses.add("mark " + sum() + (random.nextBoolean() ? " if " + test(2) : ""));
                }
            }
            return joined(clauses);
        }

        String joined(List<String> clauses) {
            String text = String.join(random.nextInt(4) == 0 ? " ; " : ";", clauses);
            if (random.nextInt(12) == 0) {
                text = spoilt(text);
            }
            return text;
        }

        String spoilt(String text) {
            int at = random.nextInt(text.length() + 1);
            String signs = " ;[]0123456789abfgnort<>=+-*/%,\n" + (char) 0 + (char) 255;
            String sign = "" + signs.charAt(random.nextInt(signs.length()));
            return switch (random.nextInt(5)) {
                case 0 -> text.substring(0, at);
                case 1 -> text.substring(0, at) + sign + text.substring(at);
                case 2 -> at < text.length() ? text.substring(0, at) + text.substring(at + 1) : text;
                case 3 -> text.substring(0, at) + "not ".repeat(random.nextInt(12)) + text.substring(at);
                default -> at < text.length() ? text.substring(0, at) + sign + text.substring(at + 1) : text;
            };
        }

        String test(int depth) {
            StringBuilder test = new StringBuilder(fact(depth));
            for (int i = random.nextInt(3); i > 0; i--) {
                test.append(random.nextBoolean() ? " and " : " or ").append(fact(depth));
            }
            return test.toString();
        }

        String fact(int depth) {
            int pick = random.nextInt(8);
            if (pick == 0) {
                return "not " + (depth > 0 ? fact(depth - 1) : "force > hard");
            }
            if (pick == 1 && depth > 0) {
                return "[" + test(depth - 1) + "]";
            }
            String[] signs = {"<", "<=", "=", ">=", ">", " < ", " >= "};
            return sum() + signs[random.nextInt(signs.length)] + sum();
        }

        String sum() {
            StringBuilder sum = new StringBuilder(value());
            while (random.nextInt(5) < 2) {
                sum.append("+-*/%".charAt(random.nextInt(5))).append(value());
            }
            if (random.nextInt(60) == 0) {
                sum.append("*99999".repeat(4));
            }
            return sum.toString();
        }

        String value() {
            if (random.nextInt(3) == 0) {
                return "" + random.nextInt(random.nextInt(8) == 0 ? 120000 : 12);
            }
            return Reference.WORDS.get(random.nextInt(Reference.WORDS.size()));
        }
    }

    /** What a text's fault is. */
    private static final class Fault extends RuntimeException {
        private static final long serialVersionUID = 1L;
        final int value;

        Fault(int place, int kind) {
            super(null, null, false, false);
            value = 1 + 8 * place + kind;
        }
    }

    private record Token(int place, String text) {
        boolean isNumber() {
            return !text.isEmpty() && Character.isDigit(text.charAt(0));
        }
    }

    /** The tokens of a text; the last one is its end. */
    private static List<Token> tokens(String text) {
        List<Token> all = new ArrayList<>();
        int i = 0;
        while (i < text.length()) {
            int start = i;
            char sign = text.charAt(i++);
            if (sign == ' ') {
                continue;
            }
            if (sign >= 'a' && sign <= 'z') {
                while (i < text.length() && text.charAt(i) >= 'a' && text.charAt(i) <= 'z') {
                    i++;
                }
            } else if (sign >= '0' && sign <= '9') {
                while (i < text.length() && text.charAt(i) >= '0' && text.charAt(i) <= '9') {
                    i++;
                }
            } else if ((sign == '<' || sign == '>') && i < text.length() && text.charAt(i) == '=') {
                i++;
            }
            all.add(new Token(start, text.substring(start, i)));
        }
        all.add(new Token(text.length(), ""));
        return all;
    }

    /** What all images keep. */
    private static final class State {
        int columns;
        int rows;
        int[] height = {};
        List<int[]> people = new ArrayList<>();
        List<int[]> things = new ArrayList<>();
        List<Integer> nets = new ArrayList<>();
        List<Integer> lessons = new ArrayList<>();
        List<int[]> afters = new ArrayList<>();
        List<int[]> clues = new ArrayList<>();
        List<State> before = new ArrayList<>();
        int force = -1;
        int x;

        State copy() {
            State copy = new State();
            copy.columns = columns;
            copy.rows = rows;
            copy.height = height.clone();
            people.forEach(p -> copy.people.add(p.clone()));
            things.forEach(t -> copy.things.add(t.clone()));
            copy.nets.addAll(nets);
            copy.lessons.addAll(lessons);
            copy.afters.addAll(afters);
            clues.forEach(c -> copy.clues.add(c.clone()));
            copy.before.addAll(before);
            copy.force = force;
            copy.x = x;
            return copy;
        }

        int cells() {
            return columns * rows;
        }

        int beside(int cell, int side) {
            int row = cell / columns + new int[] {-1, 0, 1, 0}[side];
            int column = cell % columns + new int[] {0, 1, 0, -1}[side];
            return row < 0 || row >= rows || column < 0 || column >= columns ? -1 : row * columns + column;
        }

        int lower(int cell, int side) {
            int next = side > 3 ? -1 : beside(cell, side);
            return next >= 0 && height[next] < height[cell] ? next : -1;
        }

        List<Integer> lowerSides(int cell) {
            List<Integer> sides = new ArrayList<>();
            for (int side = 0; side < 4; side++) {
                if (lower(cell, side) >= 0) {
                    sides.add(side);
                }
            }
            return sides;
        }

        int leads(int cell) {
            int best = -1;
            for (int side : lowerSides(cell)) {
                int next = lower(cell, side);
                if (best < 0 || height[next] < height[best]) {
                    best = next;
                }
            }
            return best;
        }

        List<Integer> path(int cell) {
            List<Integer> path = new ArrayList<>(List.of(cell));
            while (leads(path.get(path.size() - 1)) >= 0) {
                path.add(leads(path.get(path.size() - 1)));
            }
            return path;
        }
    }

    private record Clause(boolean isBreak, ToLongFunction<long[]> sum, ToLongFunction<long[]> test) {
    }

    private static final class Outcome {
        int mark = 100;
        int force;
        int cell;
        int steps;
        int worth;
        List<Integer> broke = new ArrayList<>();

        int bits() {
            return broke.stream().mapToInt(t -> 1 << t).sum();
        }
    }

    private static final class Reference {
        static final List<String> WORDS = List.of("person", "thing", "force", "drop", "step", "height",
                "hard", "worth", "own", "broken", "soft", "people");
        String tape = "";
        State state = new State();
        final List<List<Clause>> rules = new ArrayList<>();
        final State[] images = new State[4];
        List<Token> tokens;
        int at;
        int parts;

        int feed(int[] five) {
            if (tape.length() + 20 > 400) {
                return -1;
            }
            for (int number : five) {
                for (int i = 3; i >= 0; i--) {
                    tape += (char) (number >>> (8 * i) & 255);
                }
            }
            return tape.length();
        }

        int end(int n) {
            if (n < 0 || n > tape.length()) {
                return -1;
            }
            tape = tape.substring(0, n);
            return n;
        }

        int ground() {
            String text = tape;
            tape = "";
            try {
                State next = readGround(text);
                next.force = state.force;
                next.x = state.x;
                state = next;
                return state.cells();
            } catch (Fault fault) {
                return -2 - fault.value;
            }
        }

        int rule() {
            if (rules.size() == 6) {
                return -1;
            }
            String text = tape;
            tape = "";
            try {
                rules.add(readRule(text));
                return rules.size() - 1;
            } catch (Fault fault) {
                return -2 - fault.value;
            }
        }

        // ---- reading

        Token now() {
            return tokens.get(at);
        }

        Token take() {
            return tokens.get(at++);
        }

        boolean takes(String text) {
            if (now().text.equals(text) && !text.isEmpty()) {
                at++;
                return true;
            }
            return false;
        }

        int number(int least, int most) {
            if (!now().isNumber()) {
                throw new Fault(now().place, 0);
            }
            Token token = take();
            if (token.text.length() > 5 || Integer.parseInt(token.text) < least || Integer.parseInt(token.text) > most) {
                throw new Fault(token.place, 1);
            }
            return Integer.parseInt(token.text);
        }

        boolean another() {
            if (takes(";")) {
                return true;
            }
            if (!now().text.isEmpty()) {
                throw new Fault(now().place, 0);
            }
            return false;
        }

        State readGround(String text) {
            tokens = tokens(text);
            at = 0;
            State next = new State();
            int rowsTold = 0;
            int clauses = 0;
            do {
                Token word = take();
                if (!List.of("ground", "row", "person", "thing", "net", "lesson", "after").contains(word.text)) {
                    throw new Fault(word.place, 0);
                }
                clauses++;
                if (clauses > 40 || word.text.equals("ground") != (clauses == 1)) {
                    throw new Fault(word.place, 4);
                }
                boolean full = switch (word.text) {
                    case "row" -> rowsTold == next.rows;
                    case "person" -> next.people.size() == 5;
                    case "thing" -> next.things.size() == 8;
                    case "net" -> next.nets.size() == 4;
                    case "lesson" -> next.lessons.size() == 8;
                    case "after" -> next.afters.size() == 10;
                    default -> false;
                };
                if (full) {
                    throw new Fault(word.place, 4);
                }
                if (word.text.equals("row")) {
                    readRow(next, rowsTold++);
                } else {
                    readClause(next, word.text);
                }
            } while (another());
            return next;
        }

        void readRow(State next, int row) {
            Token digits = now();
            if (!digits.isNumber()) {
                throw new Fault(digits.place, 0);
            }
            at++;
            for (int i = 0; i < Math.max(next.columns, digits.text.length()); i++) {
                if (i >= digits.text.length() || i >= next.columns) {
                    throw new Fault(digits.place + i, 0);
                }
                next.height[row * next.columns + i] = digits.text.charAt(i) - '0';
            }
        }

        void readClause(State next, String word) {
            switch (word) {
                case "ground" -> {
                    next.columns = number(2, 8);
                    next.rows = number(2, 6);
                    next.height = new int[next.cells()];
                }
                case "person" -> next.people.add(new int[] {number(0, next.cells() - 1), number(0, 9)});
                case "thing" -> {
                    int cell = number(0, next.cells() - 1);
                    int place = now().place;
                    int owner = number(0, 99999);
                    if (owner != 9 && owner >= next.people.size()) {
                        throw new Fault(place, 1);
                    }
                    next.things.add(new int[] {cell, owner, number(1, 30), number(0, 60), 0});
                }
                case "net" -> {
                    int place = now().place;
                    int cell = number(0, next.cells() - 1);
                    if (next.nets.contains(cell)) {
                        throw new Fault(place, 1);
                    }
                    next.nets.add(cell);
                }
                case "lesson" -> next.lessons.add(number(1, 20));
                default -> {
                    int later = number(0, next.lessons.size() - 1);
                    int place = now().place;
                    int sooner = number(0, next.lessons.size() - 1);
                    if (later == sooner) {
                        throw new Fault(place, 1);
                    }
                    next.afters.add(new int[] {later, sooner});
                }
            }
        }

        List<Clause> readRule(String text) {
            tokens = tokens(text);
            at = 0;
            parts = 0;
            List<Clause> clauses = new ArrayList<>();
            do {
                Token word = take();
                if (!word.text.equals("break") && !word.text.equals("mark")) {
                    throw new Fault(word.place, 0);
                }
                if (clauses.size() == 12) {
                    throw new Fault(word.place, 4);
                }
                if (word.text.equals("break")) {
                    clauses.add(new Clause(true, null, test(0)));
                } else {
                    ToLongFunction<long[]> sum = sum();
                    clauses.add(new Clause(false, sum, takes("if") ? test(0) : w -> 1));
                }
            } while (another());
            return clauses;
        }

        ToLongFunction<long[]> test(int depth) {
            ToLongFunction<long[]> left = part(depth);
            if (!takes("or")) {
                return left;
            }
            ToLongFunction<long[]> right = test(depth);
            return w -> left.applyAsLong(w) == 1 || right.applyAsLong(w) == 1 ? 1 : 0;
        }

        ToLongFunction<long[]> part(int depth) {
            ToLongFunction<long[]> left = fact(depth);
            if (!takes("and")) {
                return left;
            }
            ToLongFunction<long[]> right = part(depth);
            return w -> left.applyAsLong(w) == 1 && right.applyAsLong(w) == 1 ? 1 : 0;
        }

        ToLongFunction<long[]> fact(int depth) {
            Token first = now();
            if ((first.text.equals("[") || first.text.equals("not")) && depth == 10) {
                throw new Fault(first.place, 2);
            }
            if (takes("not")) {
                ToLongFunction<long[]> inner = fact(depth + 1);
                return w -> 1 - inner.applyAsLong(w);
            }
            if (takes("[")) {
                ToLongFunction<long[]> inner = test(depth + 1);
                if (!takes("]")) {
                    throw new Fault(now().place, 0);
                }
                return inner;
            }
            ToLongFunction<long[]> left = sum();
            Token sign = take();
            if (!List.of("<", "<=", "=", ">=", ">").contains(sign.text)) {
                throw new Fault(sign.place, 0);
            }
            part(sign);
            ToLongFunction<long[]> right = sum();
            return w -> {
                int order = Long.compare(left.applyAsLong(w), right.applyAsLong(w));
                return order == 0 && sign.text.contains("=") || order < 0 && sign.text.contains("<")
                        || order > 0 && sign.text.contains(">") ? 1 : 0;
            };
        }

        void part(Token token) {
            if (++parts > 60) {
                throw new Fault(token.place, 3);
            }
        }

        ToLongFunction<long[]> sum() {
            ToLongFunction<long[]> sum = term();
            while (now().text.equals("+") || now().text.equals("-")) {
                boolean plus = take().text.equals("+");
                ToLongFunction<long[]> left = sum;
                ToLongFunction<long[]> right = term();
                sum = w -> wrapped(plus ? big(left, w).add(big(right, w)) : big(left, w).subtract(big(right, w)));
            }
            return sum;
        }

        ToLongFunction<long[]> term() {
            ToLongFunction<long[]> term = value();
            while (List.of("*", "/", "%").contains(now().text)) {
                String sign = take().text;
                ToLongFunction<long[]> left = term;
                ToLongFunction<long[]> right = value();
                term = w -> {
                    BigInteger a = big(left, w);
                    BigInteger b = big(right, w);
                    if (sign.equals("*")) {
                        return wrapped(a.multiply(b));
                    }
                    if (b.signum() == 0) {
                        return 0;
                    }
                    return wrapped(sign.equals("/") ? a.divide(b) : a.remainder(b));
                };
            }
            return term;
        }

        static BigInteger big(ToLongFunction<long[]> part, long[] words) {
            return BigInteger.valueOf(part.applyAsLong(words));
        }

        static long wrapped(BigInteger number) {
            return number.longValue();
        }

        ToLongFunction<long[]> value() {
            Token token = now();
            if (token.isNumber()) {
                int number = number(0, 99999);
                part(token);
                return w -> number;
            }
            int word = WORDS.indexOf(token.text);
            if (word < 0) {
                throw new Fault(token.place, 0);
            }
            at++;
            part(token);
            return w -> w[word];
        }

        // ---- falls

        /** A way given as cells, one behind the other; it stops early at a net. */
        Outcome along(State s, int person, List<Integer> cells, boolean allWhole) {
            Outcome o = new Outcome();
            o.cell = cells.get(0);
            int[] who = s.people.get(person);
            for (int i = 1; i < cells.size(); i++) {
                int next = cells.get(i);
                int drop = s.height[o.cell] - s.height[next];
                o.force = Math.max(0, o.force + drop - who[1]);
                o.cell = next;
                o.steps++;
                if (s.nets.contains(next)) {
                    o.force = 0;
                    break;
                }
                int others = 0;
                for (int p = 0; p < s.people.size(); p++) {
                    others += p != person && s.people.get(p)[0] == next ? 1 : 0;
                }
                for (int t = 0; t < s.things.size(); t++) {
                    int[] thing = s.things.get(t);
                    if (thing[0] == next && (allWhole || thing[4] == 0)) {
                        long[] words = {person, t, o.force, drop, o.steps, s.height[next], thing[2], thing[3],
                            thing[1] == person ? 1 : 0, o.broke.size(), who[1], others};
                        touch(s, o, words);
                    }
                }
                if (others > 0) {
                    o.force = o.force / 2;
                }
            }
            o.mark = Math.max(0, o.mark);
            return o;
        }

        void touch(State s, Outcome o, long[] w) {
            List<Clause> law = s.force < 0 ? List.of() : rules.get(s.force);
            boolean breaks = law.stream().noneMatch(c -> c.isBreak) ? w[2] >= w[6]
                    : law.stream().anyMatch(c -> c.isBreak && c.test.applyAsLong(w) == 1);
            if (!breaks) {
                return;
            }
            long loss = w[8] == 1 ? 0 : w[7];
            if (law.stream().anyMatch(c -> !c.isBreak)) {
                loss = law.stream().filter(c -> !c.isBreak && c.test.applyAsLong(w) == 1)
                        .mapToLong(c -> Math.min(100, Math.max(0, c.sum.applyAsLong(w)))).findFirst().orElse(0);
            }
            o.mark -= loss;
            o.broke.add((int) w[1]);
            o.worth += w[8] == 1 ? 0 : w[7];
        }

        Outcome fallFrom(State s, int person, int cell, int side, boolean allWhole) {
            List<Integer> cells = new ArrayList<>(List.of(cell));
            int first = s.lower(cell, side);
            if (first < 0) {
                first = s.leads(cell);
            }
            if (first >= 0) {
                cells.addAll(s.path(first));
            }
            return along(s, person, cells, allWhole);
        }

        boolean isPerson(int person) {
            return person >= 0 && person < state.people.size();
        }

        boolean isThing(int thing) {
            return thing >= 0 && thing < state.things.size();
        }

        boolean isCell(int cell) {
            return cell >= 0 && cell < state.cells();
        }

        Outcome outcome(int person, int side) {
            return fallFrom(state, person, state.people.get(person)[0], side, false);
        }

        // ---- acts

        void remember() {
            State past = state.copy();
            past.before.clear();
            state.before.add(past);
            if (state.before.size() > 20) {
                state.before.remove(0);
            }
        }

        static void carryOut(State s, int person, Outcome o) {
            s.people.get(person)[0] = o.cell;
            o.broke.forEach(t -> s.things.get(t)[4] = 1);
        }

        int fall(int person, int side) {
            if (!isPerson(person) || side < 0 || side > 4) {
                return -1;
            }
            Outcome o = outcome(person, side);
            remember();
            carryOut(state, person, o);
            return o.mark;
        }

        int walk(int person, int side) {
            if (!isPerson(person) || side < 0 || side > 3) {
                return -1;
            }
            int cell = state.people.get(person)[0];
            int next = state.beside(cell, side);
            if (next < 0 || Math.abs(state.height[cell] - state.height[next]) > 1) {
                return -1;
            }
            remember();
            state.people.get(person)[0] = next;
            return next;
        }

        int put(int thing, int cell) {
            if (!isThing(thing) || !isCell(cell) || state.things.get(thing)[4] == 1 || state.things.get(thing)[0] == cell) {
                return -1;
            }
            int was = state.things.get(thing)[0];
            remember();
            state.things.get(thing)[0] = cell;
            return was;
        }

        boolean mend(int thing) {
            if (!isThing(thing) || state.things.get(thing)[4] == 0) {
                return false;
            }
            remember();
            state.things.get(thing)[4] = 0;
            return true;
        }

        int undo() {
            if (state.before.isEmpty()) {
                return -2;
            }
            State past = state.before.remove(state.before.size() - 1);
            state.people = past.copy().people;
            state.things = past.copy().things;
            return state.before.size();
        }

        int force(int rule) {
            if (rule < -1 || rule >= rules.size()) {
                return -2;
            }
            int was = state.force;
            state.force = rule;
            return was;
        }

        int clue(int thing, boolean broke) {
            if (thing == -1) {
                state.clues.clear();
                return 0;
            }
            if (!isThing(thing) || state.clues.size() == 8) {
                return -2;
            }
            state.clues.add(new int[] {thing, broke ? 1 : 0});
            return state.clues.size();
        }

        int seed(int x) {
            if (x < 0) {
                return -1;
            }
            int was = state.x;
            state.x = x;
            return was;
        }

        int broken(State s) {
            return (int) s.things.stream().filter(t -> t[4] == 1).count();
        }

        int image(int k) {
            if (k < 0 || k > 3) {
                return -1;
            }
            images[k] = state.copy();
            return broken(state);
        }

        int back(int k) {
            if (k < 0 || k > 3 || images[k] == null) {
                return -1;
            }
            state = images[k].copy();
            return broken(state);
        }

        // ---- questions

        int cell(int cell, int what) {
            if (!isCell(cell)) {
                return -2;
            }
            int bits = 0;
            List<int[]> all = what == 3 ? state.people : state.things;
            for (int i = 0; i < all.size(); i++) {
                bits += all.get(i)[0] == cell ? 1 << i : 0;
            }
            List<Integer> path = state.path(cell);
            return switch (what) {
                case 0 -> state.height[cell];
                case 1 -> state.leads(cell);
                case 2 -> state.nets.contains(cell) ? 1 : 0;
                case 3, 4 -> bits;
                case 5 -> path.get(path.size() - 1);
                case 6 -> path.size() - 1;
                default -> -2;
            };
        }

        int person(int person, int what) {
            return isPerson(person) && what >= 0 && what < 2 ? state.people.get(person)[what] : -1;
        }

        int thing(int thing, int what) {
            return isThing(thing) && what >= 0 && what < 5 ? state.things.get(thing)[what] : -1;
        }

        int would(int person, int side, int what) {
            if (!isPerson(person) || side < 0 || side > 4 || what < 0 || what > 4) {
                return -1;
            }
            Outcome o = outcome(person, side);
            return new int[] {o.mark, o.force, o.bits(), o.cell, o.steps}[what];
        }

        int lean(int person) {
            if (!isPerson(person)) {
                return -1;
            }
            int best = 0;
            for (int side = 1; side < 5; side++) {
                Outcome o = outcome(person, side);
                Outcome b = outcome(person, best);
                if (o.mark > b.mark || o.mark == b.mark && o.force < b.force) {
                    best = side;
                }
            }
            return best;
        }

        int way(int person, int what) {
            if (!isPerson(person) || what < -2) {
                return -3;
            }
            List<List<Integer>> ways = new ArrayList<>();
            addWays(state.people.get(person)[0], new ArrayList<>(), ways);
            List<Integer> best = null;
            int bestWorth = 0;
            for (List<Integer> sides : ways) {
                List<Integer> cells = new ArrayList<>(List.of(state.people.get(person)[0]));
                for (int side : sides) {
                    cells.add(state.beside(cells.get(cells.size() - 1), side));
                }
                int worth = along(state, person, cells, false).worth;
                if (best == null || worth < bestWorth || worth == bestWorth && isAhead(sides, best)) {
                    best = sides;
                    bestWorth = worth;
                }
            }
            if (what == -1) {
                return bestWorth;
            }
            if (what == -2) {
                return best.size();
            }
            return what < best.size() ? best.get(what) : -2;
        }

        static boolean isAhead(List<Integer> a, List<Integer> b) {
            return a.size() != b.size() ? a.size() < b.size() : a.toString().compareTo(b.toString()) < 0;
        }

        void addWays(int cell, List<Integer> sides, List<List<Integer>> ways) {
            List<Integer> lower = state.lowerSides(cell);
            if (lower.isEmpty() || !sides.isEmpty() && state.nets.contains(cell)) {
                ways.add(sides);
                return;
            }
            for (int side : lower) {
                List<Integer> longer = new ArrayList<>(sides);
                longer.add(side);
                addWays(state.lower(cell, side), longer, ways);
            }
        }

        List<int[]> origins(int person) {
            List<int[]> all = new ArrayList<>();
            for (int cell = 0; cell < state.cells(); cell++) {
                for (int side = 0; side < 5; side++) {
                    Outcome o = fallFrom(state, person, cell, side, true);
                    if (state.clues.stream().allMatch(c -> o.broke.contains(c[0]) == (c[1] == 1))) {
                        all.add(new int[] {cell, side, o.bits()});
                    }
                }
            }
            return all;
        }

        int from(int person, int what) {
            if (!isPerson(person) || what < 0 || what > 2) {
                return -1;
            }
            List<int[]> all = origins(person);
            if (what == 0) {
                return all.size();
            }
            return all.isEmpty() ? -2 : all.get(0)[what - 1];
        }

        int shard(int person, int what) {
            if (!isPerson(person) || what < 0 || what > 1) {
                return -1;
            }
            List<int[]> all = origins(person);
            int best = -2;
            int least = -2;
            for (int t = 0; t < state.things.size() && !all.isEmpty(); t++) {
                int thing = t;
                int breaks = (int) all.stream().filter(o -> (o[2] >> thing & 1) == 1).count();
                int greater = Math.max(breaks, all.size() - breaks);
                if (best < 0 || greater < least) {
                    best = t;
                    least = greater;
                }
            }
            return what == 0 ? best : least;
        }

        int trays(int n, int what) {
            if (state.cells() == 0 || n < 1 || n > 3 || what < 0 || what > 3) {
                return -1;
            }
            List<List<Integer>> sets = new ArrayList<>();
            addTrays(n, 0, new ArrayList<>(), sets);
            if (what == 0) {
                return sets.size();
            }
            return sets.isEmpty() || what > n ? -2 : sets.get(0).get(what - 1);
        }

        void addTrays(int n, int from, List<Integer> set, List<List<Integer>> sets) {
            if (set.size() == n) {
                sets.add(new ArrayList<>(set));
                return;
            }
            for (int cell = from; cell < state.cells(); cell++) {
                int c = cell;
                if (set.stream().noneMatch(o -> state.path(o).contains(c) || state.path(c).contains(o))) {
                    set.add(c);
                    addTrays(n, c + 1, set, sets);
                    set.remove(set.size() - 1);
                }
            }
        }

        int winning(int cell) {
            for (int side : state.lowerSides(cell)) {
                if (winning(state.lower(cell, side)) < 0) {
                    return side;
                }
            }
            return -2;
        }

        int game(int cell, int what) {
            if (!isCell(cell) || what < 0 || what > 1) {
                return -1;
            }
            int side = winning(cell);
            return what == 1 ? side : side < 0 ? 0 : 1;
        }

        BigInteger[] chanceOf(int cell, int other) {
            if (cell == other) {
                return new BigInteger[] {BigInteger.ONE, BigInteger.ONE};
            }
            BigInteger[] sum = {BigInteger.ZERO, BigInteger.ONE};
            List<Integer> sides = state.lowerSides(cell);
            for (int side : sides) {
                BigInteger[] one = chanceOf(state.lower(cell, side), other);
                BigInteger below = one[1].multiply(BigInteger.valueOf(sides.size()));
                BigInteger above = sum[0].multiply(below).add(one[0].multiply(sum[1]));
                below = below.multiply(sum[1]);
                BigInteger common = above.gcd(below);
                sum = new BigInteger[] {above.divide(common), below.divide(common)};
            }
            return sum;
        }

        long chance(int cell, int other, int part) {
            if (!isCell(cell) || !isCell(other) || part < 0 || part > 1) {
                return -1;
            }
            return chanceOf(cell, other)[part].longValueExact();
        }

        int insure(int person, int price) {
            if (!isPerson(person) || price < 0 || price > 60) {
                return -1;
            }
            int bits = 0;
            for (int t = 0; t < state.things.size(); t++) {
                int times = 0;
                for (int side = 0; side < 4; side++) {
                    times += outcome(person, side).broke.contains(t) ? 1 : 0;
                }
                int[] thing = state.things.get(t);
                if (thing[1] != person && thing[4] == 0 && thing[3] * times > 4 * price) {
                    bits |= 1 << t;
                }
            }
            return bits;
        }

        int endOf(int lesson, int depth) {
            if (depth > 8) {
                return -2;
            }
            int start = 0;
            for (int[] after : state.afters) {
                if (after[0] == lesson) {
                    int end = endOf(after[1], depth + 1);
                    if (end < 0) {
                        return -2;
                    }
                    start = Math.max(start, end);
                }
            }
            return start + state.lessons.get(lesson);
        }

        int lesson(int lesson) {
            return lesson < 0 || lesson >= state.lessons.size() ? -1 : endOf(lesson, 0);
        }

        int order(int k) {
            if (k < 0 || state.cells() == 0) {
                return -1;
            }
            List<Integer> order = new ArrayList<>();
            boolean grows = true;
            while (grows) {
                grows = false;
                for (int l = 0; l < state.lessons.size() && !grows; l++) {
                    int lesson = l;
                    grows = !order.contains(l)
                            && state.afters.stream().allMatch(a -> a[0] != lesson || order.contains(a[1]));
                    if (grows) {
                        order.add(l);
                    }
                }
            }
            return k < order.size() ? order.get(k) : -2;
        }

        int draw(int[] x, int mod) {
            x[0] = BigInteger.valueOf(x[0]).multiply(BigInteger.valueOf(1103515245)).add(BigInteger.valueOf(12345))
                    .mod(BigInteger.ONE.shiftLeft(31)).intValueExact();
            return x[0] / 65536 % mod;
        }

        int terms(int m, int n, int what) {
            if (state.cells() == 0 || m < 1 || m > 20 || n < 1 || n > 40 || what < 0 || what > 2) {
                return -1;
            }
            int[] totals = new int[3];
            int[] x = {state.x};
            for (int i = 0; i < m && !state.people.isEmpty(); i++) {
                State s = state.copy();
                for (int j = 0; j < n; j++) {
                    int person = draw(x, s.people.size());
                    s.people.get(person)[0] = draw(x, s.cells());
                    Outcome o = fallFrom(s, person, s.people.get(person)[0], draw(x, 5), false);
                    carryOut(s, person, o);
                    totals[0] += o.mark;
                    totals[1] += o.broke.size();
                    totals[2] += o.force;
                }
            }
            return totals[what];
        }

        int count(int what) {
            int bits = 0;
            for (int t = 0; t < state.things.size(); t++) {
                bits |= state.things.get(t)[4] << t;
            }
            int[] all = {state.columns, state.rows, state.people.size(), state.things.size(), state.nets.size(),
                state.lessons.size(), state.afters.size(), rules.size(), state.force, bits, state.clues.size(),
                state.before.size(), state.x, tape.length()};
            return what < 0 || what >= all.length ? -1 : Arrays.stream(all).skip(what).findFirst().orElseThrow();
        }
    }
}
