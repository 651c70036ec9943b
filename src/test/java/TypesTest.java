/** Promises 12 to 17: sizes, numbers, normal forms, types and levels of terms. */
public final class TypesTest {
    private static final Class<IndexOutOfBoundsException> NO_NODE = IndexOutOfBoundsException.class;
    private static final Class<UnsupportedOperationException> NONE = UnsupportedOperationException.class;

    private static int functionsNumber(int domain, int codomain) {
        return (7 * domain + 13 * codomain + 17) % 1000003;
    }

    private static int lambdaNumber(int domain, int body) {
        return (11 * domain + 19 * body + 23) % 1000003;
    }

    private static int applyNumber(int function, int argument) {
        return (29 * function + 31 * argument + 37) % 1000003;
    }

    private static void nodesThatAreNot() {
        TelescopeCourt court = new TelescopeCourt();
        court.universe(0);
        for (int wrong : new int[] {-1, 1, 250, Integer.MIN_VALUE, Integer.MAX_VALUE}) {
            Due.thrown("size", NO_NODE, () -> court.size(wrong));
            Due.thrown("number", NO_NODE, () -> court.number(wrong));
            Due.thrown("normal", NO_NODE, () -> court.normal(wrong));
            Due.thrown("typeOf", NO_NODE, () -> court.typeOf(wrong));
            Due.thrown("level", NO_NODE, () -> court.level(wrong));
            Due.thrown("isOf, node", NO_NODE, () -> court.isOf(wrong, 0));
            Due.thrown("isOf, type", NO_NODE, () -> court.isOf(0, wrong));
        }
    }

    private static void sizesAndNumbers() {
        TelescopeCourt court = new TelescopeCourt();
        int universe = court.universe(3);
        int variable = court.variable(15);
        Due.is("size of a universe", court.size(universe), 1);
        int functions = court.functions(universe, variable);
        int lambda = court.lambda(functions, variable);
        int application = court.apply(lambda, functions);
        Due.is("size of functions", court.size(functions), 3);
        Due.is("size of a lambda", court.size(lambda), 5);
        Due.is("size of an application", court.size(application), 9);
        int f = functionsNumber(6, 26);
        int l = lambdaNumber(f, 26);
        Due.is("number of functions", court.number(functions), f);
        Due.is("number of a lambda", court.number(lambda), l);
        Due.is("number of an application", court.number(application), applyNumber(l, f));
        int now = universe;
        int number = 6;
        for (int i = 0; i < 14; i++) {
            now = court.apply(now, variable);
            number = applyNumber(number, 26);
            Due.is("remainder", court.number(now), number);
        }
    }

    private static void steps() {
        Bench bench = new Bench();
        TelescopeCourt court = bench.court;
        int u = court.universe(0);
        int x = court.variable(0);
        int y = court.variable(1);
        int identity = court.lambda(u, x);
        Due.is("no step", court.normal(identity), lambdaNumber(3, 11));
        Due.is("one step", court.normal(court.apply(identity, y)), 12);
        Due.is("below a lambda", court.normal(court.lambda(court.apply(identity, u), court.apply(identity, x))),
                lambdaNumber(3, 11));
        Due.is("an application that stays", court.normal(court.apply(x, court.apply(identity, u))),
                applyNumber(11, 3));
        // The free variables of a body come down by one; those of the argument come up below what binds.
        int body = court.lambda(y, court.functions(y, court.apply(court.variable(3), x)));
        int put = court.apply(court.lambda(u, body), court.variable(4));
        Due.is("moved variables", court.normal(put),
                lambdaNumber(11, functionsNumber(16, applyNumber(13, 11))));
        // What is first put away needs no steps of its own: an argument without a normal form.
        int self = court.lambda(u, court.apply(x, x));
        int endless = court.apply(self, self);
        Due.thrown("no end", NONE, () -> court.normal(endless));
        Due.is("no end, put away", court.normal(court.apply(court.lambda(u, u), endless)), 3);
        Due.thrown("no end in a part", NONE, () -> court.normal(court.functions(u, endless)));
    }

    /** A lambda that gives the type of functions with so many domains that are its argument, and it at the end. */
    private static int copies(Bench bench, int many) {
        TelescopeCourt court = bench.court;
        int made = court.variable(many - 1);
        for (int i = many - 2; i >= 0; i--) {
            made = court.functions(court.variable(i), made);
        }
        return court.lambda(court.universe(0), made);
    }

    private static void manySteps() {
        Bench bench = new Bench();
        TelescopeCourt court = bench.court;
        int u = court.universe(0);
        int identity = court.lambda(u, court.variable(0));
        int twice = copies(bench, 2);
        int thrice = copies(bench, 3);
        // 1 + 1 + 2 (1 + 2 (1 + 3)): twenty steps.
        int twenty = court.apply(identity,
                court.apply(twice, court.apply(twice, court.apply(thrice, court.apply(identity, u)))));
        int third = functionsNumber(3, functionsNumber(3, 3));
        int pair = functionsNumber(third, third);
        Due.is("twenty steps", court.normal(twenty), functionsNumber(pair, pair));
        // 1 + 2 (1 + 3 (1 + 2)): one more.
        int more = court.apply(twice, court.apply(thrice, court.apply(twice, court.apply(identity, u))));
        Due.thrown("twenty-one steps", NONE, () -> court.normal(more));
        Due.thrown("their type", NONE, () -> court.typeOf(more));
        Due.is("a form that is not there", court.isOf(u, more), false);
    }

    private static void largeTerms() {
        Bench bench = new Bench();
        TelescopeCourt court = bench.court;
        int u = court.universe(0);
        int nine = bench.functions(u, u, u, u, u);
        int nineNumber = court.number(nine);
        int want = nineNumber;
        for (int i = 0; i < 7; i++) {
            want = functionsNumber(nineNumber, want);
        }
        Due.is("a size of 79", court.normal(court.apply(copies(bench, 8), nine)), want);
        int body = court.universe(1);
        for (int i = 7; i >= 0; i--) {
            body = court.functions(court.variable(i), body);
        }
        int wide = court.apply(court.lambda(u, body), nine);
        Due.thrown("a size of 81", NONE, () -> court.normal(wide));
        Due.is("nothing is of a type without a form", court.isOf(u, wide), false);
        int seven = bench.functions(u, u, u, u);
        Due.is("75 on the way", court.normal(nineTimesAndAway(bench, seven)), 3);
        int away = nineTimesAndAway(bench, nine);
        Due.thrown("93 on the way", NONE, () -> court.normal(away));
    }

    /** Puts a term three times, and this three times, into an argument that the last step puts away. */
    private static int nineTimesAndAway(Bench bench, int term) {
        TelescopeCourt court = bench.court;
        int u = court.universe(0);
        int three = bench.functions(court.variable(0), court.variable(1), court.variable(2));
        int inner = court.lambda(u, court.apply(court.lambda(u, u), three));
        return court.apply(court.lambda(u, court.apply(inner, three)), term);
    }

    private static void types() {
        Bench bench = Bench.withNumbers();
        TelescopeCourt court = bench.court;
        int d = bench.ofNumbers;
        int u0 = court.universe(0);
        int u2 = court.universe(2);
        int u3 = court.universe(3);
        int x = court.variable(0);
        Due.is("of a universe", court.typeOf(u2), 6);
        Due.thrown("of the last universe", NONE, () -> court.typeOf(u3));
        Due.thrown("of a variable", NONE, () -> court.typeOf(x));
        Due.is("of a data type", court.typeOf(d), 3);
        Due.is("of a constructor", court.typeOf(court.constructorNode(bench.next)), functionsNumber(101, 101));
        Due.is("of the one without arguments", court.typeOf(court.constructorNode(bench.zero)), 101);
        Due.is("of functions", court.typeOf(court.functions(d, d)), 3);
        Due.is("the greater level ahead", court.typeOf(court.functions(u2, d)), 6);
        Due.is("the greater level behind", court.typeOf(court.functions(d, u2)), 6);
        Due.is("the level of a variable", court.typeOf(court.functions(u0, x)), 4);
        Due.thrown("a domain without a level", NONE, () -> court.typeOf(court.functions(u3, d)));
        Due.thrown("a codomain without a level", NONE, () -> court.typeOf(court.functions(d, u3)));
        Due.thrown("a codomain that is no type", NONE, () -> court.typeOf(court.functions(d, x)));
        int identity = court.lambda(d, x);
        Due.is("of a lambda", court.typeOf(identity), functionsNumber(101, 101));
        Due.thrown("a lambda over no type", NONE, () -> court.typeOf(court.lambda(bench.number(1), x)));
        Due.thrown("a lambda without a type within", NONE, () -> court.typeOf(court.lambda(d, u3)));
        Due.thrown("an open lambda", NONE, () -> court.typeOf(court.lambda(d, court.variable(1))));
        Due.is("of an application", court.typeOf(court.apply(identity, bench.number(2))), 101);
        Due.thrown("a wrong argument", NONE, () -> court.typeOf(court.apply(identity, d)));
        Due.thrown("no function", NONE, () -> court.typeOf(court.apply(bench.number(0), bench.number(0))));
        Due.thrown("an argument too many", NONE,
                () -> court.typeOf(bench.apply(court.constructorNode(bench.next), bench.number(0), bench.number(0))));
    }

    /** Types that name what stands in front of them. */
    private static void dependentTypes() {
        Bench bench = Bench.withNumbers();
        TelescopeCourt court = bench.court;
        int d = bench.ofNumbers;
        int u0 = court.universe(0);
        int x = court.variable(0);
        int y = court.variable(1);
        int same = court.lambda(u0, court.lambda(x, x));
        Due.is("of one for all types", court.typeOf(same), functionsNumber(3, functionsNumber(11, 12)));
        Due.is("of one for numbers", court.typeOf(court.apply(same, d)), functionsNumber(101, 101));
        Due.is("of all of it", court.typeOf(bench.apply(same, d, bench.number(1))), 101);
        // The domain is named by a term that is not in its normal form; so it is for the body as well.
        int numbersToo = court.apply(court.lambda(court.universe(1), x), u0);
        int over = court.lambda(numbersToo, court.lambda(x, x));
        Due.thrown("an argument of a wrong level", NONE,
                () -> court.typeOf(court.apply(court.lambda(u0, x), u0)));
        Due.is("a domain by its normal form", court.typeOf(over), functionsNumber(3, functionsNumber(11, 12)));
        Due.is("applied by its normal form", court.typeOf(bench.apply(over, d, bench.number(0))), 101);
        // The codomain calls its variable, so that a step comes up when the argument is put in.
        int family = court.functions(court.functions(d, u0), court.functions(court.apply(x, bench.number(0)),
                court.apply(y, bench.number(0))));
        Due.is("a type over a family", court.typeOf(family), 4);
        int identity = court.lambda(court.functions(d, u0), court.lambda(court.apply(x, bench.number(0)), x));
        Due.is("of one over a family", court.isOf(identity, family), true);
        int all = court.lambda(d, d);
        Due.is("with the family put in", court.typeOf(court.apply(identity, all)), functionsNumber(101, 101));
        Due.is("a type of another form", court.isOf(court.apply(identity, all), court.functions(d, d)), true);
    }

    private static void levels() {
        Bench bench = Bench.withNumbers();
        TelescopeCourt court = bench.court;
        int u0 = court.universe(0);
        for (int i = 0; i < 3; i++) {
            Due.is("level of a universe", court.level(court.universe(i)), i + 1);
        }
        int last = court.universe(3);
        Due.thrown("level of the last universe", NONE, () -> court.level(last));
        Due.is("level of a data type", court.level(bench.ofNumbers), 0);
        Due.thrown("level of a number", NONE, () -> court.level(bench.number(0)));
        Due.thrown("level of a lambda", NONE, () -> court.level(court.lambda(u0, u0)));
        Due.thrown("level of a variable", NONE, () -> court.level(court.variable(0)));
        Due.is("level of functions", court.level(court.functions(u0, bench.ofNumbers)), 1);
        int put = court.apply(court.lambda(court.universe(1), court.variable(0)), u0);
        Due.is("level by a normal form", court.level(put), 1);
    }

    private static void whatIsOf() {
        Bench bench = Bench.withNumbers();
        TelescopeCourt court = bench.court;
        int d = bench.ofNumbers;
        int u0 = court.universe(0);
        int u1 = court.universe(1);
        int put = court.apply(court.lambda(u0, court.variable(0)), d);
        Due.is("a number", court.isOf(bench.number(3), d), true);
        Due.is("by a normal form", court.isOf(bench.number(3), put), true);
        Due.is("a number is no type", court.isOf(bench.number(3), u0), false);
        Due.is("a type", court.isOf(d, u0), true);
        Due.is("no type of a higher level", court.isOf(d, u1), false);
        Due.is("no closed term", court.isOf(court.variable(0), d), false);
        Due.is("without a type", court.isOf(court.universe(3), court.universe(3)), false);
        // The other term needs no type of its own.
        Due.is("of the last universe", court.isOf(court.universe(2), court.universe(3)), true);
        Due.is("another data type", court.isOf(bench.number(0), court.dataNode(court.addData())), false);
    }

    /** Two types of one size and one number are two types for all that. */
    private static void sameNumbers() {
        Bench bench = new Bench();
        TelescopeCourt court = bench.court;
        int[] data = new int[4];
        for (int i = 0; i < data.length; i++) {
            data[i] = court.dataNode(court.addData());
        }
        int one = bench.functions(data[2], data[0], court.universe(1));
        int two = court.functions(court.functions(court.universe(0), data[0]), data[3]);
        Due.is("one number", court.number(one), court.number(two));
        court.declare(one);
        court.declare(two);
        Due.is("the one is of the one", court.isOf(court.functionNode(0), one), true);
        Due.is("the one is not of the other", court.isOf(court.functionNode(0), two), false);
        Due.is("the other is not of the one", court.isOf(court.functionNode(1), one), false);
        int toData = court.lambda(one, data[0]);
        Due.is("an argument of the one", court.typeOf(court.apply(toData, court.functionNode(0))), 3);
        int other = court.apply(toData, court.functionNode(1));
        Due.thrown("an argument of the other", NONE, () -> court.typeOf(other));
    }

    public static void main(String[] args) {
        nodesThatAreNot();
        sizesAndNumbers();
        steps();
        manySteps();
        largeTerms();
        types();
        dependentTypes();
        levels();
        whatIsOf();
        sameNumbers();
        Due.end();
    }
}
