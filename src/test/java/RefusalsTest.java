import java.util.function.Supplier;

/** The section "Exceptions": what a method that throws leaves as it was, and which exception goes ahead, method by method. */
public final class RefusalsTest extends Edges {
    private static final String CHANGES_NOTHING = "A method that throws an exception changes nothing.";
    private static final String FIRST_ONE = "If several exceptions apply, the one that is documented first is thrown.";

    public static void main(String[] args) {
        run(RefusalsTest.class, args);
    }

    // ---- a method that throws changes nothing

    /** A net with streets, a start and a change, with room for places. */
    private static Layerways changed() {
        Layerways x = fanFrom(1);
        x.street(6, 7);
        return x;
    }

    /** The same without a start. */
    private static Layerways startless() {
        return fan();
    }

    private static Layerways full() {
        Layerways x = from(12, chain(12));
        x.tear(3, 2);
        return x;
    }

    /** With an odd ring, a start and a change. */
    private static Layerways odd() {
        Layerways x = from(4, circle(2, 4, 6, 8, 9));
        x.place(1);
        x.street(1, 2);
        return x;
    }

    /**
     * Two nets are made alike, and one of them refuses the call: then both have the same state, and go on
     * alike by the same calls.
     */
    private static void leavesAll(String call, Supplier<Layerways> made, OfNet refused, String due) {
        Layerways x = made.get();
        due(call, () -> refused.told(x), due);
        same("state after " + call, stateOf(x), stateOf(made.get()));
        Layerways y = made.get();
        Layerways twin = made.get();
        Check.outcome(() -> refused.told(y));
        same("what comes after " + call, wentOn(y), wentOn(twin));
    }

    private static String wentOn(Layerways x) {
        StringBuilder row = new StringBuilder();
        row.append(Check.outcome(() -> x.street(1, 8))).append(' ').append(changeOf(x)).append(' ').append(x.checksum());
        row.append(' ').append(Check.outcome(() -> x.tear(1, 2))).append(' ').append(changeOf(x)).append(' ').append(x.checksum());
        row.append(' ').append(Check.outcome(() -> x.leave(5))).append(' ').append(x.checksum());
        row.append(' ').append(Check.outcome(() -> x.place(20))).append(' ').append(x.checksum());
        row.append(' ').append(Check.outcome(() -> x.begin(2))).append(' ').append(queueOf(x)).append(' ').append(x.checksum());
        row.append(' ').append(Check.outcome(() -> x.between(1, 2))).append(' ').append(coloursOf(x));
        return row.toString();
    }

    @Sentence(at = "Terms", says = CHANGES_NOTHING)
    static void placeThatThrowsChangesNothing() {
        leavesAll("place(1)", RefusalsTest::changed, x -> x.place(1), ARGUMENT);
        leavesAll("place(8)", RefusalsTest::startless, x -> x.place(8), ARGUMENT);
        leavesAll("place(13)", RefusalsTest::full, x -> x.place(13), STATE);
        leavesAll("place(0)", RefusalsTest::full, x -> x.place(0), STATE);
        leavesAll("place(12)", RefusalsTest::full, x -> x.place(12), ARGUMENT);
    }

    @Sentence(at = "Terms", says = CHANGES_NOTHING)
    static void leaveThatThrowsChangesNothing() {
        leavesAll("leave(9)", RefusalsTest::changed, x -> x.leave(9), ELEMENT);
        leavesAll("leave(0)", RefusalsTest::changed, x -> x.leave(0), ELEMENT);
        leavesAll("leave(13)", RefusalsTest::full, x -> x.leave(13), ELEMENT);
        leavesAll("leave(0)", Layerways::new, x -> x.leave(0), ELEMENT);
    }

    @Sentence(at = "Terms", says = CHANGES_NOTHING)
    static void streetThatThrowsChangesNothing() {
        leavesAll("street(1, 9)", RefusalsTest::changed, x -> x.street(1, 9), ELEMENT);
        leavesAll("street(9, 1)", RefusalsTest::changed, x -> x.street(9, 1), ELEMENT);
        leavesAll("street(3, 3)", RefusalsTest::changed, x -> x.street(3, 3), ARGUMENT);
        leavesAll("street(6, 7)", RefusalsTest::changed, x -> x.street(6, 7), STATE);
        leavesAll("street(7, 6)", RefusalsTest::changed, x -> x.street(7, 6), STATE);
        leavesAll("street(12, 11)", RefusalsTest::full, x -> x.street(12, 11), STATE);
    }

    @Sentence(at = "Terms", says = CHANGES_NOTHING)
    static void tearThatThrowsChangesNothing() {
        leavesAll("tear(1, 9)", RefusalsTest::changed, x -> x.tear(1, 9), ELEMENT);
        leavesAll("tear(9, 1)", RefusalsTest::changed, x -> x.tear(9, 1), ELEMENT);
        leavesAll("tear(1, 8)", RefusalsTest::changed, x -> x.tear(1, 8), ELEMENT);
        leavesAll("tear(2, 2)", RefusalsTest::changed, x -> x.tear(2, 2), ELEMENT);
        leavesAll("tear(2, 3)", RefusalsTest::full, x -> x.tear(2, 3), ELEMENT);
    }

    @Sentence(at = "Terms", says = CHANGES_NOTHING)
    static void isStreetThatThrowsChangesNothing() {
        leavesAll("isStreet(1, 9)", RefusalsTest::changed, x -> x.isStreet(1, 9), ELEMENT);
        leavesAll("isStreet(9, 1)", RefusalsTest::changed, x -> x.isStreet(9, 1), ELEMENT);
    }

    @Sentence(at = "Terms", says = CHANGES_NOTHING)
    static void keyAtThatThrowsChangesNothing() {
        leavesAll("keyAt(8)", RefusalsTest::changed, x -> x.keyAt(8), INDEX);
        leavesAll("keyAt(-1)", RefusalsTest::changed, x -> x.keyAt(-1), INDEX);
    }

    @Sentence(at = "Terms", says = CHANGES_NOTHING)
    static void beginThatThrowsChangesNothing() {
        leavesAll("begin(9)", RefusalsTest::changed, x -> x.begin(9), ELEMENT);
        leavesAll("begin(9)", RefusalsTest::startless, x -> x.begin(9), ELEMENT);
        leavesAll("begin(0)", Layerways::new, x -> x.begin(0), ELEMENT);
        // The key comes later: it is no start by the call that was refused.
        Layerways late = fan();
        Check.outcome(() -> late.begin(9));
        late.place(9);
        due("length(9) later", () -> late.length(9), STATE);
    }

    @Sentence(at = "Terms", says = CHANGES_NOTHING)
    static void lengthThatThrowsChangesNothing() {
        leavesAll("length(9)", RefusalsTest::changed, x -> x.length(9), ELEMENT);
        leavesAll("length(1)", RefusalsTest::startless, x -> x.length(1), STATE);
    }

    @Sentence(at = "Terms", says = CHANGES_NOTHING)
    static void farthestThatThrowsChangesNothing() {
        leavesAll("farthest()", RefusalsTest::startless, Layerways::farthest, STATE);
    }

    @Sentence(at = "Terms", says = CHANGES_NOTHING)
    static void layerThatThrowsChangesNothing() {
        leavesAll("layer(0)", RefusalsTest::startless, x -> x.layer(0), STATE);
    }

    @Sentence(at = "Terms", says = CHANGES_NOTHING)
    static void comesThatThrowsChangesNothing() {
        leavesAll("comes(0)", RefusalsTest::startless, x -> x.comes(0), STATE);
        leavesAll("comes(8)", RefusalsTest::changed, x -> x.comes(8), INDEX);
        leavesAll("comes(-1)", RefusalsTest::changed, x -> x.comes(-1), INDEX);
    }

    @Sentence(at = "Terms", says = CHANGES_NOTHING)
    static void waysThatThrowsChangesNothing() {
        leavesAll("ways(9)", RefusalsTest::changed, x -> x.ways(9), ELEMENT);
        leavesAll("ways(1)", RefusalsTest::startless, x -> x.ways(1), STATE);
    }

    @Sentence(at = "Terms", says = CHANGES_NOTHING)
    static void wayAtThatThrowsChangesNothing() {
        leavesAll("wayAt(9, 0, 0)", RefusalsTest::changed, x -> x.wayAt(9, 0, 0), ELEMENT);
        leavesAll("wayAt(1, 0, 0)", RefusalsTest::startless, x -> x.wayAt(1, 0, 0), STATE);
        leavesAll("wayAt(5, 3, 0)", RefusalsTest::changed, x -> x.wayAt(5, 3, 0), INDEX);
        leavesAll("wayAt(5, 0, 3)", RefusalsTest::changed, x -> x.wayAt(5, 0, 3), INDEX);
    }

    @Sentence(at = "Terms", says = CHANGES_NOTHING)
    static void throughThatThrowsChangesNothing() {
        leavesAll("through(9, 1)", RefusalsTest::changed, x -> x.through(9, 1), ELEMENT);
        leavesAll("through(1, 9)", RefusalsTest::changed, x -> x.through(1, 9), ELEMENT);
        leavesAll("through(1, 1)", RefusalsTest::startless, x -> x.through(1, 1), STATE);
    }

    @Sentence(at = "Terms", says = CHANGES_NOTHING)
    static void isOnAllThatThrowsChangesNothing() {
        leavesAll("isOnAll(9, 1)", RefusalsTest::changed, x -> x.isOnAll(9, 1), ELEMENT);
        leavesAll("isOnAll(1, 9)", RefusalsTest::changed, x -> x.isOnAll(1, 9), ELEMENT);
        leavesAll("isOnAll(1, 1)", RefusalsTest::startless, x -> x.isOnAll(1, 1), STATE);
        leavesAll("isOnAll(7, 1)", () -> fanFrom(1), x -> x.isOnAll(7, 1), UNSUPPORTED);
    }

    @Sentence(at = "Terms", says = CHANGES_NOTHING)
    static void onAllThatThrowsChangesNothing() {
        leavesAll("onAll(9)", RefusalsTest::changed, x -> x.onAll(9), ELEMENT);
        leavesAll("onAll(1)", RefusalsTest::startless, x -> x.onAll(1), STATE);
        leavesAll("onAll(7)", () -> fanFrom(1), x -> x.onAll(7), UNSUPPORTED);
    }

    @Sentence(at = "Terms", says = CHANGES_NOTHING)
    static void meanThatThrowsChangesNothing() {
        leavesAll("mean()", RefusalsTest::startless, Layerways::mean, STATE);
    }

    @Sentence(at = "Terms", says = CHANGES_NOTHING)
    static void betweenThatThrowsChangesNothing() {
        leavesAll("between(9, 1)", RefusalsTest::changed, x -> x.between(9, 1), ELEMENT);
        leavesAll("between(1, 9)", RefusalsTest::changed, x -> x.between(1, 9), ELEMENT);
    }

    @Sentence(at = "Terms", says = CHANGES_NOTHING)
    static void colourThatThrowsChangesNothing() {
        leavesAll("colour(9)", RefusalsTest::changed, x -> x.colour(9), ELEMENT);
        leavesAll("colour(2)", RefusalsTest::odd, x -> x.colour(2), UNSUPPORTED);
    }

    @Sentence(at = "Terms", says = CHANGES_NOTHING)
    static void ringThatThrowsChangesNothing() {
        leavesAll("ring()", RefusalsTest::changed, Layerways::ring, UNSUPPORTED);
    }

    @Sentence(at = "Terms", says = CHANGES_NOTHING)
    static void ringAtThatThrowsChangesNothing() {
        leavesAll("ringAt(0)", RefusalsTest::changed, x -> x.ringAt(0), UNSUPPORTED);
        leavesAll("ringAt(5)", RefusalsTest::odd, x -> x.ringAt(5), INDEX);
        leavesAll("ringAt(-1)", RefusalsTest::odd, x -> x.ringAt(-1), INDEX);
    }

    @Sentence(at = "Terms", says = CHANGES_NOTHING)
    static void changedAtThatThrowsChangesNothing() {
        leavesAll("changedAt(2)", RefusalsTest::changed, x -> x.changedAt(2), INDEX);
        leavesAll("changedAt(-1)", RefusalsTest::changed, x -> x.changedAt(-1), INDEX);
    }

    @Sentence(at = "Terms", says = CHANGES_NOTHING)
    static void wasAtThatThrowsChangesNothing() {
        leavesAll("wasAt(2)", RefusalsTest::changed, x -> x.wasAt(2), INDEX);
        leavesAll("wasAt(-1)", RefusalsTest::changed, x -> x.wasAt(-1), INDEX);
    }

    // ---- of several exceptions the one documented first

    @Sentence(at = "Terms", says = FIRST_ONE)
    static void placeWithAKeyThatIsThereInAFullNet() {
        Layerways x = net(upTo(12));
        due("place(1)", () -> x.place(1), ARGUMENT);
        due("place(12)", () -> x.place(12), ARGUMENT);
    }

    @Sentence(at = "Terms", says = FIRST_ONE)
    static void streetWithoutSuchAPlaceForBothTheSame() {
        Layerways x = net(upTo(2), 1, 2);
        due("street(3, 3)", () -> x.street(3, 3), ELEMENT);
        due("street(0, 0)", () -> x.street(0, 0), ELEMENT);
        due("street(0, 0) of nothing", () -> new Layerways().street(0, 0), ELEMENT);
    }

    @Sentence(at = "Terms", says = FIRST_ONE)
    static void lengthWithoutSuchAPlaceAndAStart() {
        due("length(9)", () -> fan().length(9), ELEMENT);
        due("length(0) of nothing", () -> new Layerways().length(0), ELEMENT);
    }

    @Sentence(at = "Terms", says = FIRST_ONE)
    static void comesWithoutAStartAndSoMany() {
        due("comes(12)", () -> fan().comes(12), STATE);
        due("comes(-1)", () -> fan().comes(-1), STATE);
        due("comes(MAX) of nothing", () -> new Layerways().comes(MAX), STATE);
    }

    @Sentence(at = "Terms", says = FIRST_ONE)
    static void waysWithoutSuchAPlaceAndAStart() {
        due("ways(9)", () -> fan().ways(9), ELEMENT);
        due("ways(0) of nothing", () -> new Layerways().ways(0), ELEMENT);
    }

    @Sentence(at = "Terms", says = FIRST_ONE)
    static void wayAtWithoutSuchAPlaceAndAStartAndAWay() {
        due("wayAt(9, -1, -1) without a start", () -> fan().wayAt(9, -1, -1), ELEMENT);
        due("wayAt(9, 0, 0) without a start", () -> fan().wayAt(9, 0, 0), ELEMENT);
        due("wayAt(9, -1, 0) with one", () -> fanFrom(1).wayAt(9, -1, 0), ELEMENT);
        due("wayAt(9, 0, MAX) with one", () -> fanFrom(1).wayAt(9, 0, MAX), ELEMENT);
    }

    @Sentence(at = "Terms", says = FIRST_ONE)
    static void wayAtWithoutAStartAndAWay() {
        due("wayAt(1, -1, 0)", () -> fan().wayAt(1, -1, 0), STATE);
        due("wayAt(1, 0, -1)", () -> fan().wayAt(1, 0, -1), STATE);
        due("wayAt(1, MAX, MAX)", () -> fan().wayAt(1, MAX, MAX), STATE);
    }

    @Sentence(at = "Terms", says = FIRST_ONE)
    static void throughWithoutSuchAPlaceAndAStart() {
        due("through(9, 1)", () -> fan().through(9, 1), ELEMENT);
        due("through(1, 9)", () -> fan().through(1, 9), ELEMENT);
        due("through(0, 0) of nothing", () -> new Layerways().through(0, 0), ELEMENT);
    }

    @Sentence(at = "Terms", says = FIRST_ONE)
    static void isOnAllWithoutSuchAPlaceAndAStart() {
        due("isOnAll(9, 1)", () -> fan().isOnAll(9, 1), ELEMENT);
        due("isOnAll(1, 9)", () -> fan().isOnAll(1, 9), ELEMENT);
        due("isOnAll(0, 0) of nothing", () -> new Layerways().isOnAll(0, 0), ELEMENT);
    }

    @Sentence(at = "Terms", says = FIRST_ONE)
    static void isOnAllWithoutSuchAPlaceAndAWay() {
        due("isOnAll(7, 9)", () -> fanFrom(1).isOnAll(7, 9), ELEMENT);
    }

    @Sentence(at = "Terms", says = FIRST_ONE)
    static void isOnAllWithoutAStartAndSoAWay() {
        due("isOnAll(7, 1)", () -> fan().isOnAll(7, 1), STATE);
    }

    @Sentence(at = "Terms", says = FIRST_ONE)
    static void onAllWithoutSuchAPlaceAndAStart() {
        due("onAll(9)", () -> fan().onAll(9), ELEMENT);
        due("onAll(0) of nothing", () -> new Layerways().onAll(0), ELEMENT);
    }

    @Sentence(at = "Terms", says = FIRST_ONE)
    static void onAllWithoutAStartAndSoAWay() {
        due("onAll(7)", () -> fan().onAll(7), STATE);
    }

    @Sentence(at = "Terms", says = FIRST_ONE)
    static void colourWithoutSuchAPlaceAndTwoColours() {
        due("colour(9)", () -> complete(3).colour(9), ELEMENT);
        due("colour(0)", () -> complete(12).colour(0), ELEMENT);
    }

    @Sentence(at = "Terms", says = FIRST_ONE)
    static void ringAtWithTwoColoursAndWithoutSuchAPlace() {
        due("ringAt(-1)", () -> fan().ringAt(-1), UNSUPPORTED);
        due("ringAt(12)", () -> fan().ringAt(12), UNSUPPORTED);
        due("ringAt(MIN) of nothing", () -> new Layerways().ringAt(MIN), UNSUPPORTED);
    }
}
