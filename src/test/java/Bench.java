/** A court with data types and functions that many tests use, and short ways to lay terms. */
final class Bench {
    final TelescopeCourt court = new TelescopeCourt();

    // Numbers: zero and next.
    int numbers;
    int zero;
    int next;
    int ofNumbers;

    /** With the data type of numbers. */
    static Bench withNumbers() {
        Bench made = new Bench();
        made.numbers = made.court.addData();
        made.zero = made.court.addConstructor(made.numbers, 0, 0, 0, 0);
        made.next = made.court.addConstructor(made.numbers, 1, made.numbers, 0, 0);
        made.ofNumbers = made.court.dataNode(made.numbers);
        return made;
    }

    int apply(int head, int... arguments) {
        int made = head;
        for (int argument : arguments) {
            made = court.apply(made, argument);
        }
        return made;
    }

    /** The type of functions from all but the last one of these to the last one. */
    int functions(int... parts) {
        int made = parts[parts.length - 1];
        for (int i = parts.length - 2; i >= 0; i--) {
            made = court.functions(parts[i], made);
        }
        return made;
    }

    /** A term that applies this one so many times. */
    int times(int many, int head, int argument) {
        int made = argument;
        for (int i = 0; i < many; i++) {
            made = court.apply(head, made);
        }
        return made;
    }

    int number(int many) {
        return times(many, court.constructorNode(next), court.constructorNode(zero));
    }

    /** A function of so many numbers to numbers. */
    int declareOverNumbers(int many) {
        int type = ofNumbers;
        for (int i = 0; i < many; i++) {
            type = court.functions(ofNumbers, type);
        }
        return court.declare(type);
    }

    /** A function that builds its number once more: a step for each constructor. Its goals come to be the last ones. */
    int declareCopy(int goalsSoFar) {
        int function = declareOverNumbers(1);
        court.split(goalsSoFar, 0);
        court.fill(goalsSoFar + 1, court.constructorNode(zero));
        int again = court.apply(court.functionNode(function), court.variable(0));
        court.fill(goalsSoFar + 2, court.apply(court.constructorNode(next), again));
        court.accept(function);
        return function;
    }

    /** Lays nodes until there are 250, and answers the number of the last one. */
    int layFull() {
        int last = -1;
        while (last < 249) {
            last = court.universe(0);
        }
        return last;
    }
}
