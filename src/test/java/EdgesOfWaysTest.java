/** The sentences of the promises 10 to 20, ways from the start, that name a boundary case. */
public final class EdgesOfWaysTest extends Edges {
    private static final int[] NO_NUMBERS = {-1, MIN, MAX};

    public static void main(String[] args) {
        run(EdgesOfWaysTest.class, args);
    }

    /** What a call answers if no start was ever made, if the start is gone, and in a net without places. */
    private static void dueWithoutAStart(String call, OfNet asked) {
        Layerways never = fan();
        due(call + " ahead of any start", () -> asked.told(never), STATE);
        Layerways gone = fanFrom(8);
        gone.leave(8);
        due(call + " after the start went", () -> asked.told(gone), STATE);
        gone.place(8);
        due(call + " after its key came again", () -> asked.told(gone), STATE);
        gone.begin(1);
        due(call + " with a start again", () -> Check.outcome(() -> asked.told(gone)).equals(STATE), false);
    }

    // ---- 10 begin

    @Sentence(at = "Promise 10: begin", says = "Returns how many places have a length then.")
    static void beginTellsHowManyHaveALength() {
        due("begin(1) of one", () -> net(upTo(1)).begin(1), 1);
        due("begin(1), a place apart", () -> net(upTo(3), 2, 3).begin(1), 1);
        due("begin(2), not the one apart", () -> net(upTo(3), 2, 3).begin(2), 2);
        due("begin(12) of a chain", () -> chain(12).begin(12), 12);
        due("begin(12) of twelve alone", () -> net(upTo(12)).begin(12), 1);
        Layerways x = fanFrom(1);
        due("begin(8) with another start", () -> x.begin(8), 2);
        due("begin(8) with the same", () -> x.begin(8), 2);
    }

    @Sentence(at = "Promise 10: begin", says = "Makes a place the start.")
    static void beginMakesAnotherPlaceTheStart() {
        Layerways x = fanFrom(1);
        x.begin(6);
        due("lengths from 6", () -> lengthsOf(x), "3 2 2 2 1 0 -1 -1");
        x.leave(1);
        due("comes(0) once the start of before is gone", () -> x.comes(0), 6);
    }

    @Sentence(at = "Promise 10: begin", says = "if there is no such place")
    static void beginIfThereIsNoSuchPlace() {
        due("begin(0) of nothing", () -> new Layerways().begin(0), ELEMENT);
        Layerways x = net(upTo(2));
        due("begin(0)", () -> x.begin(0), ELEMENT);
        due("begin(3)", () -> x.begin(3), ELEMENT);
        due("comes(0), no start by these", () -> x.comes(0), STATE);
        x.begin(2);
        x.leave(2);
        due("begin(2), which is gone", () -> x.begin(2), ELEMENT);
    }

    // ---- 11 length

    @Sentence(at = "Promise 11: length", says = "Returns the length, -1 if it has none.")
    static void lengthIsMinusOneIfAPlaceHasNone() {
        Layerways x = from(2, net(upTo(4), 1, 2, 3, 4));
        due("lengths", () -> lengthsOf(x), "1 0 -1 -1");
        x.street(2, 3);
        due("lengths with a street more", () -> lengthsOf(x), "1 0 1 2");
        x.tear(2, 3);
        due("lengths without it", () -> lengthsOf(x), "1 0 -1 -1");
        x.place(0);
        due("length(0), a new place", () -> x.length(0), -1);
    }

    @Sentence(at = "Promise 11: length", says = "if there is no such place")
    static void lengthIfThereIsNoSuchPlace() {
        Layerways x = from(1, chain(2));
        due("length(0)", () -> x.length(0), ELEMENT);
        due("length(3)", () -> x.length(3), ELEMENT);
        x.leave(2);
        due("length(2), which is gone", () -> x.length(2), ELEMENT);
    }

    @Sentence(at = "Promise 11: length", says = "if there is no start")
    static void lengthIfThereIsNoStart() {
        dueWithoutAStart("length(1)", x -> x.length(1));
        dueWithoutAStart("length(7)", x -> x.length(7));
    }

    // ---- 12 farthest

    @Sentence(at = "Promise 12: farthest", says = "Returns the greatest length that a place has.")
    static void farthestFromZeroToEleven() {
        due("of one place", () -> from(1, net(upTo(1))).farthest(), 0);
        due("of a start apart", () -> from(1, net(upTo(3), 2, 3)).farthest(), 0);
        due("of all streets", () -> from(5, complete(12)).farthest(), 1);
        due("of a chain from its end", () -> from(12, chain(12)).farthest(), 11);
        due("of a chain from within", () -> from(4, chain(12)).farthest(), 8);
        // The last key is not the farthest.
        due("of a circle", () -> from(1, circle(upTo(6))).farthest(), 3);
    }

    @Sentence(at = "Promise 12: farthest", says = "if there is no start")
    static void farthestIfThereIsNoStart() {
        dueWithoutAStart("farthest()", Layerways::farthest);
        due("of nothing", () -> new Layerways().farthest(), STATE);
    }

    // ---- 13 layer

    @Sentence(at = "Promise 13: layer", says = "Returns how many have just this one")
    static void layerCountsJustTheLengthAsked() {
        Layerways x = from(1, chain(12));
        due("layer(0), the start alone", () -> x.layer(0), 1);
        due("layer(11), the last", () -> x.layer(11), 1);
        due("layer(12), beyond", () -> x.layer(12), 0);
        due("layer(MAX)", () -> x.layer(MAX), 0);
        due("layer(1) of all streets", () -> from(3, complete(12)).layer(1), 11);
        due("layer(2) of many ways", () -> manyWays().layer(2), 3);
    }

    @Sentence(at = "Promise 13: layer", says = "0 if it is below 0")
    static void layerIsZeroBelowZero() {
        Layerways x = from(1, net(upTo(12)));
        due("layer(-1), though 11 have no length", () -> x.layer(-1), 0);
        due("layer(-2)", () -> x.layer(-2), 0);
        due("layer(MIN)", () -> x.layer(MIN), 0);
    }

    @Sentence(at = "Promise 13: layer", says = "if there is no start")
    static void layerIfThereIsNoStart() {
        dueWithoutAStart("layer(0)", x -> x.layer(0));
        dueWithoutAStart("layer(-1)", x -> x.layer(-1));
        due("layer(0) of nothing", () -> new Layerways().layer(0), STATE);
    }

    // ---- 14 comes

    @Sentence(at = "Promise 14: comes", says = "as which one, from 0")
    static void comesGoesFromZero() {
        due("queue of one place", () -> queueOf(from(MIN, net(new int[] {MIN}))), MIN + " " + INDEX);
        due("comes(0)", () -> fanFrom(6).comes(0), 6);
        due("comes(11) of a chain", () -> from(12, chain(12)).comes(11), 1);
    }

    @Sentence(at = "Promise 14: comes", says = "if not so many come")
    static void comesIfNotSoManyCome() {
        Layerways x = fanFrom(1);
        due("comes(5), the last", () -> x.comes(5), 6);
        due("comes(6), as many as come, though there are 8 places", () -> x.comes(6), INDEX);
        dueFor("comes of the fan", NO_NUMBERS, x::comes, INDEX);
        Layerways full = from(1, chain(12));
        due("comes(12) of a full net", () -> full.comes(12), INDEX);
        dueFor("comes of a full net", NO_NUMBERS, full::comes, INDEX);
        due("comes(1) of a place apart", () -> from(9, net(new int[] {9, 8})).comes(1), INDEX);
        full.tear(6, 7);
        due("comes(6) once fewer come", () -> full.comes(6), INDEX);
        due("comes(5) once fewer come", () -> full.comes(5), 6);
    }

    @Sentence(at = "Promise 14: comes", says = "if there is no start")
    static void comesIfThereIsNoStart() {
        dueWithoutAStart("comes(0)", x -> x.comes(0));
        due("comes(0) of nothing", () -> new Layerways().comes(0), STATE);
    }

    // ---- 15 ways

    @Sentence(at = "Promise 15: ways", says = "Returns how many shortest ways lead to a place.")
    static void waysFromNoneToThirtySix() {
        Layerways x = fanFrom(1);
        due("ways(1), the start", () -> x.ways(1), 1);
        due("ways(7), no way", () -> x.ways(7), 0);
        due("ways(5)", () -> x.ways(5), 3);
        due("ways(12), as many as can be", () -> manyWays().ways(12), 36);
        due("ways(12) of a chain", () -> from(1, chain(12)).ways(12), 1);
        due("ways(9) of all streets", () -> from(3, complete(12)).ways(9), 1);
    }

    @Sentence(at = "Promise 15: ways", says = "if there is no such place")
    static void waysIfThereIsNoSuchPlace() {
        Layerways x = from(1, chain(2));
        due("ways(0)", () -> x.ways(0), ELEMENT);
        due("ways(3)", () -> x.ways(3), ELEMENT);
        x.leave(2);
        due("ways(2), which is gone", () -> x.ways(2), ELEMENT);
    }

    @Sentence(at = "Promise 15: ways", says = "if there is no start")
    static void waysIfThereIsNoStart() {
        dueWithoutAStart("ways(1)", x -> x.ways(1));
        dueWithoutAStart("ways(7)", x -> x.ways(7));
    }

    // ---- 16 wayAt

    @Sentence(at = "Promise 16: wayAt", says = "which place, 0 for the start")
    static void wayAtZeroIsTheStart() {
        Layerways x = fanFrom(6);
        due("wayAt(6, 0, 0), the start itself", () -> x.wayAt(6, 0, 0), 6);
        due("wayAt(1, 2, 0)", () -> x.wayAt(1, 2, 0), 6);
        due("wayAt(1, 2, 3), the last place", () -> x.wayAt(1, 2, 3), 1);
        due("wayAt(12, 0, 11) of a chain", () -> from(1, chain(12)).wayAt(12, 0, 11), 12);
    }

    @Sentence(at = "Promise 16: wayAt", says = "if there is no such shortest way")
    static void wayAtIfThereIsNoSuchShortestWay() {
        Layerways x = fanFrom(1);
        due("wayAt(5, 2, 0), the last", () -> x.wayAt(5, 2, 0), 1);
        due("wayAt(5, 3, 0), as many as there are", () -> x.wayAt(5, 3, 0), INDEX);
        dueFor("wayAt(5, number, 0)", NO_NUMBERS, number -> x.wayAt(5, number, 0), INDEX);
        due("wayAt(1, 0, 0), the start", () -> x.wayAt(1, 0, 0), 1);
        due("wayAt(1, 1, 0), the start", () -> x.wayAt(1, 1, 0), INDEX);
        dueFor("wayAt(1, number, 0)", NO_NUMBERS, number -> x.wayAt(1, number, 0), INDEX);
        due("wayAt(7, 0, 0), no way", () -> x.wayAt(7, 0, 0), INDEX);
        dueFor("wayAt(7, number, 0), no way", NO_NUMBERS, number -> x.wayAt(7, number, 0), INDEX);
        Layerways most = manyWays();
        due("wayAt(12, 35, 1), the last of the most", () -> most.wayAt(12, 35, 1), 4);
        due("wayAt(12, 36, 1)", () -> most.wayAt(12, 36, 1), INDEX);
    }

    @Sentence(at = "Promise 16: wayAt", says = "or it has no such place")
    static void wayAtIfTheWayHasNoSuchPlace() {
        Layerways x = fanFrom(1);
        due("wayAt(5, 1, 2), the last", () -> x.wayAt(5, 1, 2), 5);
        due("wayAt(5, 1, 3), just behind it", () -> x.wayAt(5, 1, 3), INDEX);
        dueFor("wayAt(5, 1, index)", NO_NUMBERS, index -> x.wayAt(5, 1, index), INDEX);
        due("wayAt(1, 0, 1), behind the start", () -> x.wayAt(1, 0, 1), INDEX);
        dueFor("wayAt(1, 0, index)", NO_NUMBERS, index -> x.wayAt(1, 0, index), INDEX);
        due("wayAt(7, 0, 0), no way", () -> x.wayAt(7, 0, 0), INDEX);
        Layerways longest = from(12, chain(12));
        due("wayAt(1, 0, 11), the last of the longest", () -> longest.wayAt(1, 0, 11), 1);
        due("wayAt(1, 0, 12)", () -> longest.wayAt(1, 0, 12), INDEX);
    }

    @Sentence(at = "Promise 16: wayAt", says = "if there is no such place to which it leads")
    static void wayAtIfThereIsNoSuchPlaceToWhichItLeads() {
        Layerways x = from(1, chain(2));
        due("wayAt(0, 0, 0)", () -> x.wayAt(0, 0, 0), ELEMENT);
        due("wayAt(3, 0, 0)", () -> x.wayAt(3, 0, 0), ELEMENT);
        x.leave(2);
        due("wayAt(2, 0, 0), which is gone", () -> x.wayAt(2, 0, 0), ELEMENT);
    }

    @Sentence(at = "Promise 16: wayAt", says = "if there is no start")
    static void wayAtIfThereIsNoStart() {
        dueWithoutAStart("wayAt(1, 0, 0)", x -> x.wayAt(1, 0, 0));
        Layerways never = fan();
        due("wayAt(7, 0, 0)", () -> never.wayAt(7, 0, 0), STATE);
    }

    // ---- 17 through

    @Sentence(at = "Promise 17: through", says = "have a certain place, be it the first or the last one")
    static void throughCountsTheFirstAndTheLastPlace() {
        Layerways x = fanFrom(1);
        due("through(5, 1), the first", () -> x.through(5, 1), 3);
        due("through(5, 5), the last", () -> x.through(5, 5), 3);
        due("through(1, 1), both", () -> x.through(1, 1), 1);
        due("through(5, 3), one of them", () -> x.through(5, 3), 1);
        due("through(5, 6), behind", () -> x.through(5, 6), 0);
        due("through(1, 5), behind the start", () -> x.through(1, 5), 0);
        due("through(5, 7), apart", () -> x.through(5, 7), 0);
        due("through(12, 12) of the most", () -> manyWays().through(12, 12), 36);
    }

    @Sentence(at = "Promise 17: through", says = "Returns how many shortest ways to a place")
    static void throughIsZeroIfNoWayLeadsThere() {
        Layerways x = fanFrom(1);
        due("through(7, 7)", () -> x.through(7, 7), 0);
        due("through(7, 8)", () -> x.through(7, 8), 0);
        due("through(7, 1)", () -> x.through(7, 1), 0);
    }

    @Sentence(at = "Promise 17: through", says = "if there is no such place, for either")
    static void throughIfThereIsNoSuchPlaceForEither() {
        Layerways x = from(1, chain(2));
        due("through(0, 1)", () -> x.through(0, 1), ELEMENT);
        due("through(1, 0)", () -> x.through(1, 0), ELEMENT);
        due("through(3, 2)", () -> x.through(3, 2), ELEMENT);
        due("through(2, 3)", () -> x.through(2, 3), ELEMENT);
        due("through(3, 3)", () -> x.through(3, 3), ELEMENT);
    }

    @Sentence(at = "Promise 17: through", says = "if there is no start")
    static void throughIfThereIsNoStart() {
        dueWithoutAStart("through(1, 2)", x -> x.through(1, 2));
        dueWithoutAStart("through(1, 1)", x -> x.through(1, 1));
    }

    // ---- 18 isOnAll

    @Sentence(at = "Promise 18: isOnAll", says = "Returns whether all have it.")
    static void isOnAllFromTheStartToThePlaceItself() {
        Layerways x = fanFrom(1);
        due("isOnAll(5, 1), the first", () -> x.isOnAll(5, 1), true);
        due("isOnAll(5, 5), the last", () -> x.isOnAll(5, 5), true);
        due("isOnAll(5, 2), some", () -> x.isOnAll(5, 2), false);
        due("isOnAll(5, 7), none", () -> x.isOnAll(5, 7), false);
        due("isOnAll(1, 1), the start", () -> x.isOnAll(1, 1), true);
        due("isOnAll(1, 2), none", () -> x.isOnAll(1, 2), false);
        due("isOnAll(6, 5), all", () -> x.isOnAll(6, 5), true);
    }

    @Sentence(at = "Promise 18: isOnAll", says = "if there is no such place, for either")
    static void isOnAllIfThereIsNoSuchPlaceForEither() {
        Layerways x = from(1, chain(2));
        due("isOnAll(0, 1)", () -> x.isOnAll(0, 1), ELEMENT);
        due("isOnAll(1, 0)", () -> x.isOnAll(1, 0), ELEMENT);
        due("isOnAll(3, 2)", () -> x.isOnAll(3, 2), ELEMENT);
        due("isOnAll(2, 3)", () -> x.isOnAll(2, 3), ELEMENT);
        due("isOnAll(3, 3)", () -> x.isOnAll(3, 3), ELEMENT);
    }

    @Sentence(at = "Promise 18: isOnAll", says = "if there is no start")
    static void isOnAllIfThereIsNoStart() {
        dueWithoutAStart("isOnAll(1, 1)", x -> x.isOnAll(1, 1));
        due("isOnAll(7, 8)", () -> fan().isOnAll(7, 8), STATE);
    }

    @Sentence(at = "Promise 18: isOnAll", says = "if no way leads there")
    static void isOnAllIfNoWayLeadsThere() {
        Layerways x = fanFrom(1);
        due("isOnAll(7, 1), the start", () -> x.isOnAll(7, 1), UNSUPPORTED);
        due("isOnAll(7, 7), itself", () -> x.isOnAll(7, 7), UNSUPPORTED);
        due("isOnAll(7, 8), its neighbour", () -> x.isOnAll(7, 8), UNSUPPORTED);
        due("isOnAll(1, 7), a way to 1 but not by 7", () -> x.isOnAll(1, 7), false);
        x.street(1, 8);
        due("isOnAll(7, 8) once one leads there", () -> x.isOnAll(7, 8), true);
    }

    // ---- 19 onAll

    @Sentence(at = "Promise 19: onAll", says = "the first and the last one, too")
    static void onAllCountsTheFirstAndTheLastPlace() {
        Layerways x = fanFrom(1);
        due("onAll(1), first and last the same", () -> x.onAll(1), 1);
        due("onAll(2), first and last", () -> x.onAll(2), 2);
        due("onAll(5), no one else", () -> x.onAll(5), 2);
        due("onAll(6), one more", () -> x.onAll(6), 3);
        due("onAll(12) of a chain", () -> from(1, chain(12)).onAll(12), 12);
        due("onAll(12) of the most ways", () -> manyWays().onAll(12), 2);
    }

    @Sentence(at = "Promise 19: onAll", says = "if there is no such place")
    static void onAllIfThereIsNoSuchPlace() {
        Layerways x = from(1, chain(2));
        due("onAll(0)", () -> x.onAll(0), ELEMENT);
        due("onAll(3)", () -> x.onAll(3), ELEMENT);
        x.leave(2);
        due("onAll(2), which is gone", () -> x.onAll(2), ELEMENT);
    }

    @Sentence(at = "Promise 19: onAll", says = "if there is no start")
    static void onAllIfThereIsNoStart() {
        dueWithoutAStart("onAll(1)", x -> x.onAll(1));
        due("onAll(7)", () -> fan().onAll(7), STATE);
    }

    @Sentence(at = "Promise 19: onAll", says = "if no way leads there")
    static void onAllIfNoWayLeadsThere() {
        Layerways x = fanFrom(1);
        due("onAll(7)", () -> x.onAll(7), UNSUPPORTED);
        due("onAll(8)", () -> x.onAll(8), UNSUPPORTED);
        x.street(6, 8);
        due("onAll(7) once one leads there", () -> x.onAll(7), 5);
        x.tear(6, 8);
        due("onAll(7) once none does", () -> x.onAll(7), UNSUPPORTED);
    }

    // ---- 20 mean

    @Sentence(at = "Promise 20: mean", says = "Returns the mean length of the places that have one.")
    static void meanLeavesOutPlacesWithoutALength() {
        due("of one place", () -> from(1, net(upTo(1))).mean(), 0.0);
        due("of a start apart", () -> from(1, net(upTo(12))).mean(), 0.0);
        due("of two of twelve", () -> from(1, net(upTo(12), 1, 12)).mean(), 0.5);
    }

    @Sentence(at = "Promise 20: mean", says = "Returns the sum of their lengths divided by how many they are, both converted to double.")
    static void meanIsADivisionOfDoubles() {
        due("2 by 3", () -> from(1, net(upTo(3), 1, 2, 1, 3)).mean(), 2.0 / 3.0);
        due("1 by 2, below 1", () -> from(1, chain(2)).mean(), 0.5);
        due("66 by 12", () -> from(1, chain(12)).mean(), 5.5);
        due("11 by 12", () -> from(7, complete(12)).mean(), 11.0 / 12.0);
        due("28 by 12", () -> manyWays().mean(), (3 * 1 + 3 * 2 + 4 * 3 + 4) / 12.0);
    }

    @Sentence(at = "Promise 20: mean", says = "if there is no start")
    static void meanIfThereIsNoStart() {
        dueWithoutAStart("mean()", Layerways::mean);
        due("of nothing", () -> new Layerways().mean(), STATE);
    }
}
