/** Promises 35 to 37: the share of filled goals, the mean size of right sides, and soundness. */
public final class FiguresTest {
    private static final Class<ArithmeticException> NONE = ArithmeticException.class;

    private static void shares() {
        Bench bench = Bench.withNumbers();
        TelescopeCourt court = bench.court;
        Due.thrown("no goals", NONE, court::filledShare);
        int empty = court.addData();
        int fromEmpty = court.declare(court.functions(court.dataNode(empty), bench.ofNumbers));
        Due.is("an open one", court.filledShare(), 0f);
        court.split(0, 0);
        Due.thrown("a split one alone", NONE, court::filledShare);
        court.accept(fromEmpty);
        bench.declareOverNumbers(1);
        court.split(1, 0);
        Due.is("two open ones", court.filledShare(), 0f);
        court.auto(3);
        Due.is("one of two", court.filledShare(), 0.5f);
        bench.declareOverNumbers(1);
        Due.is("one of three", court.filledShare(), 1f / 3f);
        court.auto(4);
        Due.is("two of three", court.filledShare(), 2f / 3f);
        court.fill(2, bench.number(0));
        Due.is("all", court.filledShare(), 1f);
        court.reopen(4);
        Due.is("two of three again", court.filledShare(), 2f / 3f);
    }

    private static void means() {
        Bench bench = Bench.withNumbers();
        TelescopeCourt court = bench.court;
        Due.thrown("no goals", NONE, court::meanSize);
        bench.declareOverNumbers(1);
        Due.thrown("an open one", NONE, court::meanSize);
        court.split(0, 0);
        Due.thrown("a split one", NONE, court::meanSize);
        court.fill(1, bench.number(2));
        Due.is("one of 5", court.meanSize(), 5.0);
        court.auto(2);
        Due.is("5 and 1", court.meanSize(), 3.0);
        bench.declareOverNumbers(1);
        Due.is("an open one does not count", court.meanSize(), 3.0);
        court.fill(3, bench.number(0));
        Due.is("5, 1 and 1", court.meanSize(), 7.0 / 3.0);
        court.reopen(1);
        Due.is("1 and 1", court.meanSize(), 1.0);
        court.reopen(2);
        court.reopen(3);
        Due.thrown("none again", NONE, court::meanSize);
    }

    private static void soundness() {
        Bench bench = Bench.withNumbers();
        TelescopeCourt court = bench.court;
        Due.is("nothing", court.isSound(), true);
        int u0 = court.universe(0);
        int add = bench.declareOverNumbers(2);
        Due.is("an open goal", court.isSound(), true);
        court.split(0, 0);
        court.split(2, 1);
        Due.is("split goals", court.isSound(), true);
        court.auto(1);
        court.fill(3, court.variable(0));
        Due.is("filled goals", court.isSound(), true);
        court.fill(4, bench.apply(court.functionNode(add), court.variable(0), court.variable(1)));
        court.accept(add);
        Due.is("an accepted function", court.isSound(), true);
        court.declare(bench.functions(u0, court.variable(0), court.variable(1)));
        court.auto(5);
        Due.is("a moved type", court.isSound(), true);
        // A right side that is a lambda within, and one that calls another function.
        bench.declareOverNumbers(1);
        int called = bench.apply(court.functionNode(add), court.variable(0), court.variable(1));
        court.fill(6, court.apply(court.lambda(bench.ofNumbers, called), bench.number(1)));
        Due.is("all of it", court.isSound(), true);
        court.reopen(6);
        Due.is("opened again", court.isSound(), true);
    }

    public static void main(String[] args) {
        shares();
        means();
        soundness();
        Due.end();
    }
}
