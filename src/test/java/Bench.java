import java.util.ArrayList;
import java.util.HashMap;
import java.util.List;
import java.util.Map;

/** A court with data types and functions that many tests use, and short ways to lay terms. */
final class Bench {
    final TelescopeCourt court = new TelescopeCourt();

    // Numbers: zero and next.
    int numbers;
    int zero;
    int next;
    int ofNumbers;

    /** With the data type of numbers. */
    static Bench withNumbers() {
        Bench made = new Bench();
        made.numbers = made.court.addData();
        made.zero = made.court.addConstructor(made.numbers, 0, 0, 0, 0);
        made.next = made.court.addConstructor(made.numbers, 1, made.numbers, 0, 0);
        made.ofNumbers = made.court.dataNode(made.numbers);
        return made;
    }

    int apply(int head, int... arguments) {
        int made = head;
        for (int argument : arguments) {
            made = court.apply(made, argument);
        }
        return made;
    }

    /** The type of functions from all but the last one of these to the last one. */
    int functions(int... parts) {
        int made = parts[parts.length - 1];
        for (int i = parts.length - 2; i >= 0; i--) {
            made = court.functions(parts[i], made);
        }
        return made;
    }

    /** A term that applies this one so many times. */
    int times(int many, int head, int argument) {
        int made = argument;
        for (int i = 0; i < many; i++) {
            made = court.apply(head, made);
        }
        return made;
    }

    int number(int many) {
        return times(many, court.constructorNode(next), court.constructorNode(zero));
    }

    /** A function of so many numbers to numbers. */
    int declareOverNumbers(int many) {
        int type = ofNumbers;
        for (int i = 0; i < many; i++) {
            type = court.functions(ofNumbers, type);
        }
        return court.declare(type);
    }

    /** A function that builds its number once more: a step for each constructor. Its goals come to be the last ones. */
    int declareCopy(int goalsSoFar) {
        int function = declareOverNumbers(1);
        court.split(goalsSoFar, 0);
        court.fill(goalsSoFar + 1, court.constructorNode(zero));
        int again = court.apply(court.functionNode(function), court.variable(0));
        court.fill(goalsSoFar + 2, court.apply(court.constructorNode(next), again));
        court.accept(function);
        return function;
    }

    // Terms by texts

    private final Map<String, Integer> leaves = new HashMap<>();
    private final Map<List<Integer>, Integer> pairs = new HashMap<>();
    private String text;
    private int at;

    /**
     * Lays a term that is told by a text: u1, v0, d0, c2 and f0 are a universe, a variable, a data type, a constructor
     * and a function; (f a b) is an application, {a b c} are functions from a and b to c, [a b] is a lambda. What was
     * told before is not laid again.
     */
    int term(String told) {
        text = told;
        at = 0;
        int made = part();
        if (at != text.length()) {
            throw new IllegalArgumentException(told);
        }
        return made;
    }

    private int part() {
        char sign = text.charAt(at);
        at++;
        switch (sign) {
            case '(': return joined(')');
            case '{': return joined('}');
            case '[': return joined(']');
            default: return leaf(sign);
        }
    }

    private int leaf(char sign) {
        int from = at;
        while (at < text.length() && Character.isDigit(text.charAt(at))) {
            at++;
        }
        String told = text.substring(from - 1, at);
        Integer known = leaves.get(told);
        int made = known == null ? laid(sign, Integer.parseInt(told.substring(1))) : known;
        leaves.put(told, made);
        return made;
    }

    private int laid(char sign, int parameter) {
        switch (sign) {
            case 'u': return court.universe(parameter);
            case 'v': return court.variable(parameter);
            case 'd': return court.dataNode(parameter);
            case 'c': return court.constructorNode(parameter);
            case 'f': return court.functionNode(parameter);
            default: throw new IllegalArgumentException(text);
        }
    }

    private int joined(char end) {
        List<Integer> parts = new ArrayList<>();
        while (text.charAt(at) != end) {
            if (text.charAt(at) == ' ') {
                at++;
            } else {
                parts.add(part());
            }
        }
        at++;
        int made = end == ')' ? parts.get(0) : parts.get(parts.size() - 1);
        for (int i = 1; i < parts.size(); i++) {
            made = end == ')' ? pair(end, made, parts.get(i)) : pair(end, parts.get(parts.size() - 1 - i), made);
        }
        return made;
    }

    private int pair(char end, int first, int second) {
        List<Integer> key = List.of((int) end, first, second);
        Integer known = pairs.get(key);
        int made = known != null ? known : end == ')' ? court.apply(first, second)
                : end == '}' ? court.functions(first, second) : court.lambda(first, second);
        pairs.put(key, made);
        return made;
    }

    /** Lays nodes until there are 250, and answers the number of the last one. */
    int layFull() {
        return layUpTo(250);
    }

    /** Lays nodes until there are so many, and answers the number of the last one. */
    int layUpTo(int many) {
        int last = -1;
        while (last < many - 1) {
            last = court.universe(0);
        }
        return last;
    }
}
