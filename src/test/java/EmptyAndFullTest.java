/** Each call on a net without places, and on full ones: "There are at most 12 places, none at first." */
public final class EmptyAndFullTest extends Edges {
    private static final String SENTENCE = "There are at most 12 places, none at first.";

    public static void main(String[] args) {
        run(EmptyAndFullTest.class, args);
    }

    /** On a new net, on one whose places all left, and on one whose start left last. */
    private static void onNone(String call, OfNet asked, Object answer) {
        due(call + " of a new net", () -> asked.told(new Layerways()), answer);
        due(call + " once all are gone", () -> asked.told(emptied(false)), answer);
        due(call + " once all and the start are gone", () -> asked.told(emptied(true)), answer);
    }

    private static Layerways emptied(boolean begun) {
        Layerways x = complete(12);
        if (begun) {
            x.begin(12);
        }
        for (int key = 1; key <= 12; key++) {
            x.leave(key);
        }
        return x;
    }

    @Sentence(at = "Terms", says = SENTENCE)
    static void callsThatPutAndTakeWithoutPlaces() {
        onNone("place(0)", x -> x.place(0), 1);
        onNone("leave(0)", x -> x.leave(0), ELEMENT);
        onNone("leave(12)", x -> x.leave(12), ELEMENT);
        onNone("street(0, 1)", x -> x.street(0, 1), ELEMENT);
        onNone("street(12, 12)", x -> x.street(12, 12), ELEMENT);
        onNone("tear(0, 1)", x -> x.tear(0, 1), ELEMENT);
        onNone("tear(12, 12)", x -> x.tear(12, 12), ELEMENT);
        onNone("begin(0)", x -> x.begin(0), ELEMENT);
        onNone("begin(12)", x -> x.begin(12), ELEMENT);
    }

    @Sentence(at = "Terms", says = SENTENCE)
    static void callsOnTheNetWithoutPlaces() {
        onNone("places()", Layerways::places, 0);
        onNone("streets()", Layerways::streets, 0);
        onNone("isStreet(0, 0)", x -> x.isStreet(0, 0), ELEMENT);
        onNone("isStreet(11, 12)", x -> x.isStreet(11, 12), ELEMENT);
        onNone("keyAt(0)", x -> x.keyAt(0), INDEX);
        onNone("keyAt(-1)", x -> x.keyAt(-1), INDEX);
    }

    @Sentence(at = "Terms", says = SENTENCE)
    static void callsOnWaysWithoutPlaces() {
        onNone("length(12)", x -> x.length(12), ELEMENT);
        onNone("farthest()", Layerways::farthest, STATE);
        onNone("layer(0)", x -> x.layer(0), STATE);
        onNone("comes(0)", x -> x.comes(0), STATE);
        onNone("ways(12)", x -> x.ways(12), ELEMENT);
        onNone("wayAt(12, 0, 0)", x -> x.wayAt(12, 0, 0), ELEMENT);
        onNone("through(12, 12)", x -> x.through(12, 12), ELEMENT);
        onNone("isOnAll(12, 12)", x -> x.isOnAll(12, 12), ELEMENT);
        onNone("onAll(12)", x -> x.onAll(12), ELEMENT);
        onNone("mean()", Layerways::mean, STATE);
    }

    @Sentence(at = "Terms", says = SENTENCE)
    static void callsOnTheWholeNetWithoutPlaces() {
        onNone("between(12, 12)", x -> x.between(12, 12), ELEMENT);
        onNone("parts()", Layerways::parts, 0);
        onNone("isTwoColours()", Layerways::isTwoColours, true);
        onNone("colour(12)", x -> x.colour(12), ELEMENT);
        onNone("ring()", Layerways::ring, UNSUPPORTED);
        onNone("ringAt(0)", x -> x.ringAt(0), UNSUPPORTED);
        onNone("changedAt(0)", x -> x.changedAt(0), INDEX);
        onNone("wasAt(0)", x -> x.wasAt(0), INDEX);
        onNone("isTrue()", Layerways::isTrue, true);
        onNone("checksum()", Layerways::checksum, 208568L);
    }

    @Sentence(at = "Terms", says = SENTENCE)
    static void callsThatPutAndTakeInAFullNet() {
        due("place(13)", () -> chain(12).place(13), STATE);
        due("place(12)", () -> chain(12).place(12), ARGUMENT);
        due("leave(12) of all streets", () -> complete(12).leave(12), 11);
        due("leave(1) of all streets", () -> complete(12).leave(1), 11);
        due("leave(13)", () -> chain(12).leave(13), ELEMENT);
        due("street(12, 1)", () -> from(1, chain(12)).street(12, 1), 5);
        due("street(12, 1) of all streets", () -> complete(12).street(12, 1), STATE);
        due("street(12, 12) of all streets", () -> complete(12).street(12, 12), ARGUMENT);
        due("tear(12, 1) of all streets", () -> from(1, complete(12)).tear(12, 1), 1);
        due("tear(12, 11)", () -> from(12, chain(12)).tear(12, 11), 11);
        due("tear(12, 12)", () -> complete(12).tear(12, 12), ELEMENT);
        due("begin(12)", () -> chain(12).begin(12), 12);
    }

    @Sentence(at = "Terms", says = SENTENCE)
    static void callsOnTheNetThatIsFull() {
        due("places()", () -> complete(12).places(), 12);
        due("streets()", () -> complete(12).streets(), 66);
        due("isStreet(12, 11)", () -> complete(12).isStreet(12, 11), true);
        due("isStreet(12, 12)", () -> complete(12).isStreet(12, 12), false);
        due("isStreet(12, 13)", () -> complete(12).isStreet(12, 13), ELEMENT);
        due("keyAt(11)", () -> complete(12).keyAt(11), 12);
        due("keyAt(12)", () -> complete(12).keyAt(12), INDEX);
    }

    @Sentence(at = "Terms", says = SENTENCE)
    static void callsOnWaysInAFullNet() {
        Layerways x = from(12, chain(12));
        due("length(1)", () -> x.length(1), 11);
        due("farthest()", x::farthest, 11);
        due("layer(11)", () -> x.layer(11), 1);
        due("comes(11)", () -> x.comes(11), 1);
        due("comes(12)", () -> x.comes(12), INDEX);
        due("ways(1)", () -> x.ways(1), 1);
        due("way 0 to 1", () -> wayOf(x, 1, 0), "12 11 10 9 8 7 6 5 4 3 2 1 " + INDEX);
        due("through(1, 12)", () -> x.through(1, 12), 1);
        due("isOnAll(1, 7)", () -> x.isOnAll(1, 7), true);
        due("onAll(1)", () -> x.onAll(1), 12);
        due("mean()", x::mean, 5.5);
    }

    @Sentence(at = "Terms", says = SENTENCE)
    static void callsOnTheWholeNetThatIsFull() {
        Layerways x = from(1, complete(12));
        due("between(12, 11)", () -> x.between(12, 11), 1);
        due("parts()", x::parts, 1);
        due("isTwoColours()", x::isTwoColours, false);
        due("colour(12)", () -> x.colour(12), UNSUPPORTED);
        due("ring()", x::ring, 3);
        due("ringAt(2)", () -> x.ringAt(2), 3);
        due("isTrue()", x::isTrue, true);
        x.tear(1, 12);
        due("changedAt(0)", () -> x.changedAt(0), 12);
        due("wasAt(0)", () -> x.wasAt(0), 1);
        due("changedAt(1)", () -> x.changedAt(1), INDEX);
    }
}
