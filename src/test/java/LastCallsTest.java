/**
 * "An object is used for at most 512 calls": the last ones answer as the first ones do, whichever calls were made so
 * often, and even if each of them was refused.
 */
public final class LastCallsTest {
    // Types of 75 and, with too many domains, of 73; what is copied has a variable, so that no copy is shared.
    private static final String FOUR = "{u0 ([u0 {v0 v1 v2 d0}] ([u0 {v0 v1 v2 v3}] {v0 v1 v2}))}";
    private static final String MANY = "{u0 ([u0 {v0 v1 v2 v3}] ([u0 {v0 v1 v2}] {v0 v1 v2}))}";
    // A type of a size of 35, a term of a type of 73, and one of forty steps.
    private static final String PART = "([u0 {v0 v1 v2}] ([u0 {v0 v1 v2}] {v0 v1}))";
    private static final String LARGE = "(f4 [u0 {v0 v1}])";
    private static final String LONG = "(f0 (f0 (f0 (f0 (f0 (c1 (c1 (c1 (c1 (c1 (c1 (c1 c0))))))))))))";

    private interface Call {
        Object of(TelescopeCourt court, int node);
    }

    /** With a goal, 7, that cannot be split once more, as types of 41, 41 and 57 would be too large. */
    private static Bench made() {
        Bench bench = Bench.withNumbers();
        TelescopeCourt court = bench.court;
        court.addConstructor(court.addData(), 3, 1, 1, 1);
        bench.declareCopy(0);
        court.declare(bench.term("{d1 d1 d1 d1 u0}"));
        court.declare(bench.term("{d1 d1 u0}"));
        court.declare(bench.term("{d1 (f2 v0 v0) (f2 v1 v1) (f1 v2 v2 v2 v2) u0}"));
        court.split(5, 0);
        court.split(6, 0);
        court.declare(bench.term("{{u0 u0} u0 (v1 " + PART + ")}"));
        return bench;
    }

    private static Object answer(Call call, TelescopeCourt court, int node) {
        try {
            return call.of(court, node);
        } catch (RuntimeException e) {
            return e.getClass();
        }
    }

    private static void often(String what, String text, Object due, Call call) {
        often(what, made(), text, due, call);
    }

    private static void often(String what, Bench bench, String text, Object due, Call call) {
        TelescopeCourt court = bench.court;
        int dear = bench.term(LONG);
        int type = bench.term(FOUR);
        int large = bench.term(LARGE);
        int node = bench.term(text);
        Object form = court.normal(type);
        Object level = court.typeOf(large);
        Object value = court.run(dear);
        for (int i = 0; i < 380; i++) {
            Due.is(what, answer(call, court, node), due);
        }
        Due.is("a run behind: " + what, answer(TelescopeCourt::run, court, dear), value);
        Due.is("clauses behind: " + what, answer(TelescopeCourt::runByClauses, court, dear), value);
        Due.is("a normal form behind: " + what, answer(TelescopeCourt::normal, court, type), form);
        Due.is("a type behind: " + what, answer(TelescopeCourt::typeOf, court, large), level);
        Due.is("a goal behind: " + what, answer(TelescopeCourt::goalState, court, 7), 'o');
        Due.is("soundness behind: " + what, court.isSound(), true);
    }

    /** With eight functions, so that no type can be declared. */
    private static Bench full() {
        Bench bench = made();
        for (int i = 5; i < 8; i++) {
            bench.declareOverNumbers(1);
        }
        return bench;
    }

    /** With a function whose calls make too many graphs. */
    private static Bench withoutAnEnd() {
        Bench bench = made();
        bench.declareOverNumbers(1);
        bench.court.fill(9, bench.term("(f5 (f5 v0))"));
        return bench;
    }

    public static void main(String[] args) {
        Object cannot = UnsupportedOperationException.class;
        Object notNow = IllegalStateException.class;
        Bench bench = made();
        int form = bench.court.normal(bench.term(FOUR));
        int type = bench.court.typeOf(bench.term(LARGE));
        int seven = bench.court.number(bench.number(7));
        often("normal", FOUR, form, TelescopeCourt::normal);
        often("typeOf", LARGE, type, TelescopeCourt::typeOf);
        often("level", FOUR, 1, TelescopeCourt::level);
        often("level, none", LARGE, cannot, TelescopeCourt::level);
        often("isOf", LARGE, false, (court, node) -> court.isOf(node, node));
        Bench other = made();
        int four = other.term(FOUR);
        often("isOf, another", other, LARGE, false, (court, node) -> court.isOf(node, four));
        often("declare, no level", LARGE, cannot, TelescopeCourt::declare);
        often("declare, many domains", MANY, cannot, TelescopeCourt::declare);
        often("declare, eight functions", full(), FOUR, notNow, TelescopeCourt::declare);
        often("split, too large", LONG, cannot, (court, node) -> court.split(7, 0));
        often("fill, another type", LARGE, cannot, (court, node) -> court.fill(7, node));
        often("fill, a universe", "u0", cannot, (court, node) -> court.fill(7, node));
        often("auto, none", LONG, cannot, (court, node) -> court.auto(7));
        often("accept, no end", withoutAnEnd(), LONG, cannot, (court, node) -> court.accept(5));
        often("run", LONG, seven, TelescopeCourt::run);
        often("runByClauses", LONG, seven, TelescopeCourt::runByClauses);
        often("steps", LONG, 40, TelescopeCourt::steps);
        often("valueSize", LONG, 8, TelescopeCourt::valueSize);
        String beyond = LONG.replace("(f0 (f0 (f0 (f0 (f0 (c1", "(f0 (f0 (f0 (f0 (f0 (f0 (c1") + ")";
        often("run, many steps", beyond, cannot, TelescopeCourt::run);
        often("runByClauses, many steps", beyond, cannot, TelescopeCourt::runByClauses);
        often("steps, too many", beyond, cannot, TelescopeCourt::steps);
        often("valueSize, many steps", beyond, cannot, TelescopeCourt::valueSize);
        often("run, another type", LARGE, cannot, TelescopeCourt::run);
        often("isSound", LONG, true, (court, node) -> court.isSound());
        Due.end();
    }
}
