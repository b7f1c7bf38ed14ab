import java.math.BigInteger;

/** The sentences of the promises 21 to 30, the whole net, the change and all, that name a boundary case. */
public final class EdgesOfWholeNetTest extends Edges {
    private static final int[] NO_NUMBERS = {-1, MIN, MAX};

    public static void main(String[] args) {
        run(EdgesOfWholeNetTest.class, args);
    }

    // ---- 21 between

    @Sentence(at = "Promise 21: between", says = "Returns the least length of all ways from a place to a place.")
    static void betweenNeedsNoStartAndLeavesItAsItIs() {
        Layerways x = chain(12);
        due("between(1, 12) without a start", () -> x.between(1, 12), 11);
        due("between(12, 1)", () -> x.between(12, 1), 11);
        due("between(7, 7), from a place to itself", () -> x.between(7, 7), 0);
        due("comes(0), no start by these", () -> x.comes(0), STATE);
        x.begin(6);
        due("between(1, 3) with a start elsewhere", () -> x.between(1, 3), 2);
        due("queue after it", () -> queueOf(x), "6 5 7 4 8 3 9 2 10 1 11 12 " + INDEX);
        x.street(1, 12);
        due("between(1, 12) with a street", () -> x.between(1, 12), 1);
    }

    @Sentence(at = "Promise 21: between", says = "-1 if there is no way")
    static void betweenIsMinusOneIfThereIsNoWay() {
        Layerways x = net(upTo(4), 1, 3, 2, 4);
        due("between(1, 2)", () -> x.between(1, 2), -1);
        due("between(4, 3)", () -> x.between(4, 3), -1);
        due("between(1, 1), itself", () -> x.between(1, 1), 0);
        x.begin(1);
        due("between(2, 1), to the start", () -> x.between(2, 1), -1);
        due("between(2, 4), both without a length", () -> x.between(2, 4), 1);
        due("between(1, 2) of twelve alone", () -> net(upTo(12)).between(1, 2), -1);
    }

    @Sentence(at = "Promise 21: between", says = "if there is no such place, for either")
    static void betweenIfThereIsNoSuchPlaceForEither() {
        Layerways x = chain(2);
        due("between(0, 1)", () -> x.between(0, 1), ELEMENT);
        due("between(1, 0)", () -> x.between(1, 0), ELEMENT);
        due("between(3, 2)", () -> x.between(3, 2), ELEMENT);
        due("between(2, 3)", () -> x.between(2, 3), ELEMENT);
        due("between(3, 3), both the same", () -> x.between(3, 3), ELEMENT);
        due("between(0, 0) of nothing", () -> new Layerways().between(0, 0), ELEMENT);
    }

    // ---- 22 parts

    @Sentence(at = "Promise 22: parts", says = "Returns how many parts the net has.")
    static void partsFromNoneToTwelve() {
        due("of nothing", () -> new Layerways().parts(), 0);
        due("of one place", () -> net(upTo(1)).parts(), 1);
        due("of twelve alone", () -> net(upTo(12)).parts(), 12);
        due("of all streets", () -> complete(12).parts(), 1);
        Layerways x = chain(12);
        x.tear(6, 7);
        due("of a chain torn", x::parts, 2);
        x.leave(6);
        due("of it without the end of a part", x::parts, 2);
        x.leave(3);
        due("of it without a place within", x::parts, 3);
    }

    // ---- 23, 24 isTwoColours, colour

    @Sentence(at = "Promise 23: isTwoColours", says = "Tells whether the net has two colours.")
    static void isTwoColoursOfNothingAndOfAll() {
        due("of nothing", () -> new Layerways().isTwoColours(), true);
        due("of twelve alone", () -> net(upTo(12)).isTwoColours(), true);
        due("of all streets", () -> complete(12).isTwoColours(), false);
        Layerways x = circle(1, 2, 3);
        x.tear(1, 3);
        due("of an odd ring torn", x::isTwoColours, true);
        x.street(3, 1);
        due("of it closed again", x::isTwoColours, false);
        x.leave(2);
        due("of it without a place", x::isTwoColours, true);
    }

    @Sentence(at = "Promise 24: colour", says = "Returns 0 or 1.")
    static void colourIsZeroOrOne() {
        due("of a place alone", () -> net(new int[] {MAX}).colour(MAX), 0);
        due("of a start that has not the least key", () -> from(2, chain(2)).colour(2), 1);
        due("of the farthest of a chain", () -> chain(12).colour(12), 1);
        due("of the farthest but one", () -> chain(12).colour(11), 0);
    }

    @Sentence(at = "Promise 24: colour", says = "if there is no such place")
    static void colourIfThereIsNoSuchPlace() {
        due("colour(0) of nothing", () -> new Layerways().colour(0), ELEMENT);
        Layerways x = chain(2);
        due("colour(0)", () -> x.colour(0), ELEMENT);
        due("colour(3)", () -> x.colour(3), ELEMENT);
        x.leave(2);
        due("colour(2), which is gone", () -> x.colour(2), ELEMENT);
    }

    @Sentence(at = "Promise 24: colour", says = "if the net does not have two colours")
    static void colourIfTheNetDoesNotHaveTwoColours() {
        Layerways x = net(upTo(6), 1, 2, 4, 5, 5, 6, 6, 4);
        due("colour(4), in the odd ring", () -> x.colour(4), UNSUPPORTED);
        due("colour(1), in another part", () -> x.colour(1), UNSUPPORTED);
        due("colour(3), alone", () -> x.colour(3), UNSUPPORTED);
        x.tear(5, 6);
        due("colour(6) once it has", () -> x.colour(6), 1);
    }

    // ---- 25, 26 ring, ringAt

    @Sentence(at = "Promise 25: ring", says = "Returns how many streets the odd ring has.")
    static void ringFromThreeToEleven() {
        due("of three places", () -> complete(3).ring(), 3);
        due("of all streets", () -> complete(12).ring(), 3);
        due("of a circle of 9", () -> circle(upTo(9)).ring(), 9);
        Layerways x = circle(upTo(11));
        due("of a circle of 11", x::ring, 11);
        x.place(12);
        due("of it in a full net", x::ring, 11);
        x.street(11, 12);
        x.street(12, 2);
        due("of it with a second one of 11", x::ring, 11);
    }

    @Sentence(at = "Promise 25: ring", says = "if the net has two colours")
    static void ringIfTheNetHasTwoColours() {
        due("of nothing", () -> new Layerways().ring(), UNSUPPORTED);
        due("of one place", () -> net(upTo(1)).ring(), UNSUPPORTED);
        due("of a chain", () -> chain(12).ring(), UNSUPPORTED);
        due("of a circle of 4", () -> circle(upTo(4)).ring(), UNSUPPORTED);
        due("of a circle of 12", () -> circle(upTo(12)).ring(), UNSUPPORTED);
        Layerways x = complete(3);
        due("of an odd one", x::ring, 3);
        x.tear(2, 3);
        due("of it torn", x::ring, UNSUPPORTED);
    }

    @Sentence(at = "Promise 26: ringAt", says = "which one of its row, from 0")
    static void ringAtGoesFromZero() {
        Layerways x = circle(4, 3, 9, 5, 8);
        due("ringAt(0), the least key", () -> x.ringAt(0), 3);
        due("ringAt(1), its lesser neighbour", () -> x.ringAt(1), 4);
        due("ringAt(4), its other neighbour", () -> x.ringAt(4), 9);
    }

    @Sentence(at = "Promise 26: ringAt", says = "if the net has two colours")
    static void ringAtIfTheNetHasTwoColours() {
        due("ringAt(0) of nothing", () -> new Layerways().ringAt(0), UNSUPPORTED);
        due("ringAt(0) of a circle of 4", () -> circle(upTo(4)).ringAt(0), UNSUPPORTED);
        due("ringAt(0) of a chain", () -> chain(3).ringAt(0), UNSUPPORTED);
        Layerways x = complete(3);
        due("ringAt(0) of an odd one", () -> x.ringAt(0), 1);
        x.leave(1);
        due("ringAt(0) of it without a place", () -> x.ringAt(0), UNSUPPORTED);
    }

    @Sentence(at = "Promise 26: ringAt", says = "if the row has no such place")
    static void ringAtIfTheRowHasNoSuchPlace() {
        Layerways x = complete(12);
        due("ringAt(2), the last", () -> x.ringAt(2), 3);
        due("ringAt(3), as many as it has", () -> x.ringAt(3), INDEX);
        dueFor("ringAt of 3", NO_NUMBERS, x::ringAt, INDEX);
        Layerways y = circle(upTo(11));
        due("ringAt(10), the last of the longest", () -> y.ringAt(10), 11);
        due("ringAt(11), as many as it has", () -> y.ringAt(11), INDEX);
        dueFor("ringAt of 11", NO_NUMBERS, y::ringAt, INDEX);
        // A ring that was longer ahead leaves no place behind.
        y.street(1, 3);
        due("ringAt(3) of one of 3 behind one of 11", () -> y.ringAt(3), INDEX);
    }

    // ---- 27, 28 changedAt, wasAt

    private static Layerways withElevenChanged() {
        Layerways x = chain(12);
        x.tear(1, 2);
        x.begin(1);
        x.street(1, 2);
        return x;
    }

    @Sentence(at = "Promise 27: changedAt", says = "its number, from 0")
    static void changedAtGoesFromZero() {
        Layerways x = withElevenChanged();
        due("changedAt(0)", () -> x.changedAt(0), 2);
        due("changedAt(10)", () -> x.changedAt(10), 12);
    }

    @Sentence(at = "Promise 27: changedAt", says = "if there is no such number")
    static void changedAtIfThereIsNoSuchNumber() {
        Layerways x = new Layerways();
        due("changedAt(0) of nothing", () -> x.changedAt(0), INDEX);
        dueFor("changedAt of nothing", NO_NUMBERS, x::changedAt, INDEX);
        Layerways y = withElevenChanged();
        due("changedAt(11), as many as it has", () -> y.changedAt(11), INDEX);
        due("changedAt(12)", () -> y.changedAt(12), INDEX);
        dueFor("changedAt of 11", NO_NUMBERS, y::changedAt, INDEX);
        y.tear(11, 12);
        due("changedAt(0), the only one", () -> y.changedAt(0), 12);
        due("changedAt(1), as many as it has", () -> y.changedAt(1), INDEX);
        y.street(1, 3);
        y.street(2, 4);
        due("changedAt(0) of an empty change", () -> y.changedAt(0), INDEX);
    }

    @Sentence(at = "Promise 27: changedAt", says = "Returns a place of the change.")
    static void changedAtTellsThePlacesByRisingKeys() {
        // The keys lie otherwise than the lengths, and the first place is the start, which never changes.
        Layerways x = from(MIN, net(new int[] {MIN, 6, -1, MAX}, 6, MAX, 6, -1));
        x.street(MIN, MAX);
        due("change", () -> changeOf(x), "-1:-1 6:-1 " + MAX + ":-1");
    }

    @Sentence(at = "Promise 28: wasAt", says = "its number, from 0")
    static void wasAtGoesFromZero() {
        Layerways x = withElevenChanged();
        x.tear(1, 2);
        due("wasAt(0)", () -> x.wasAt(0), 1);
        due("wasAt(10)", () -> x.wasAt(10), 11);
    }

    @Sentence(at = "Promise 28: wasAt", says = "Returns the length, -1 if it had none.")
    static void wasAtIsMinusOneIfAPlaceHadNone() {
        Layerways x = from(1, net(upTo(3)));
        x.street(1, 2);
        due("wasAt(0), none before", () -> x.wasAt(0), -1);
        x.tear(1, 2);
        due("wasAt(0), none then", () -> x.wasAt(0), 1);
        x.street(2, 3);
        x.street(1, 3);
        due("wasAt(0) of two without one before", () -> x.wasAt(0), -1);
        due("wasAt(1) of two without one before", () -> x.wasAt(1), -1);
        x.street(1, 2);
        due("wasAt(0), one before", () -> x.wasAt(0), 2);
    }

    @Sentence(at = "Promise 28: wasAt", says = "if there is no such number")
    static void wasAtIfThereIsNoSuchNumber() {
        Layerways x = new Layerways();
        due("wasAt(0) of nothing", () -> x.wasAt(0), INDEX);
        dueFor("wasAt of nothing", NO_NUMBERS, x::wasAt, INDEX);
        Layerways y = withElevenChanged();
        due("wasAt(11), as many as it has", () -> y.wasAt(11), INDEX);
        due("wasAt(12)", () -> y.wasAt(12), INDEX);
        dueFor("wasAt of 11", NO_NUMBERS, y::wasAt, INDEX);
        y.tear(11, 12);
        due("wasAt(0), the only one", () -> y.wasAt(0), 11);
        due("wasAt(1), as many as it has", () -> y.wasAt(1), INDEX);
        y.begin(2);
        due("wasAt(0) of an empty change", () -> y.wasAt(0), INDEX);
    }

    // ---- 29 isTrue

    @Sentence(at = "Promise 29: isTrue", says = "if there is a start, each street joins two places without lengths, or with lengths that differ by 1 at the most")
    static void isTrueWithStreetsBetweenPlacesWithoutLengths() {
        due("of streets far from the start", () -> fanFrom(7).isTrue(), true);
        due("of streets in one layer", () -> from(1, complete(12)).isTrue(), true);
        due("of streets from layer to layer", () -> from(1, chain(12)).isTrue(), true);
    }

    @Sentence(at = "Promise 29: isTrue", says = "if there is a start")
    static void isTrueWithoutAStart() {
        due("of nothing", () -> new Layerways().isTrue(), true);
        due("of the fan", () -> fan().isTrue(), true);
        due("of all streets", () -> complete(12).isTrue(), true);
        Layerways x = fanFrom(1);
        x.leave(1);
        due("of the fan without its start", x::isTrue, true);
    }

    @Sentence(at = "Promise 29: isTrue", says = "each place with a length above 0 has neighbours with a length that is less by 1, and as many shortest ways as these have together")
    static void isTrueWithAStartOfLengthZero() {
        due("of a start alone", () -> from(1, net(upTo(1))).isTrue(), true);
        due("of a start apart", () -> from(2, net(upTo(3), 1, 3)).isTrue(), true);
        due("of many ways", () -> manyWays().isTrue(), true);
    }

    @Sentence(at = "Promise 29: isTrue", says = "otherwise the odd ring has an odd number of streets, 3 at least, and unlike places")
    static void isTrueOfOddRings() {
        due("of the least", () -> complete(3).isTrue(), true);
        due("of the greatest", () -> from(11, circle(upTo(11))).isTrue(), true);
        due("of an odd ring apart from the start", () -> from(1, net(upTo(4), 2, 3, 3, 4, 4, 2)).isTrue(), true);
    }

    @Sentence(at = "Promise 29: isTrue", says = "If the net has two colours, each street joins two places of unlike ones")
    static void isTrueOfTwoColours() {
        due("of the greatest even ring", () -> circle(upTo(12)).isTrue(), true);
        due("of twelve alone", () -> from(12, net(upTo(12))).isTrue(), true);
        Layerways x = complete(3);
        x.tear(1, 2);
        due("of an odd ring torn", x::isTrue, true);
    }

    // ---- 30 checksum

    /** By whole numbers without a bound, taken back to a long at the end. */
    private static long sum(long... terms) {
        BigInteger sum = BigInteger.valueOf(7);
        for (long term : terms) {
            sum = sum.multiply(BigInteger.valueOf(31)).add(BigInteger.valueOf(term));
        }
        return sum.longValue();
    }

    @Sentence(at = "Promise 30: checksum", says = "Returns 7 at first")
    static void checksumBeginsWithSeven() {
        due("of nothing: 7, then no parts, two colours, no change", () -> new Layerways().checksum(), 208568L);
        Layerways x = net(upTo(1));
        x.leave(1);
        due("of nothing again", x::checksum, 208568L);
    }

    @Sentence(at = "Promise 30: checksum", says = "for each place by rising keys, 31 times itself plus its key, and then likewise how many streets it has")
    static void checksumGoesByRisingKeys() {
        due("of three, put by falling keys", () -> net(new int[] {MAX, 0, MIN}, 0, MAX).checksum(),
                sum(MIN, 0, -1, 0, 0, 1, -1, 0, MAX, 1, -1, 0, 2, 1, 0));
    }

    @Sentence(at = "Promise 30: checksum", says = "its length, -1 if it has none or there is no start")
    static void checksumHasMinusOneForNoLength() {
        Layerways x = net(upTo(3), 1, 2);
        due("without a start", x::checksum, sum(1, 1, -1, 0, 2, 1, -1, 0, 3, 0, -1, 0, 2, 1, 0));
        x.begin(2);
        due("with a place that has none", x::checksum, sum(1, 1, 1, 1, 2, 1, 0, 1, 3, 0, -1, 0, 2, 1, 0));
        x.leave(2);
        due("with the start gone", x::checksum, sum(1, 0, -1, 0, 3, 0, -1, 0, 2, 1, 0));
    }

    @Sentence(at = "Promise 30: checksum", says = "how many shortest ways lead to it, 0 without a start")
    static void checksumHasZeroWaysWithoutAStart() {
        Layerways x = circle(1, 2, 4, 3);
        due("without a start", x::checksum, sum(1, 2, -1, 0, 2, 2, -1, 0, 3, 2, -1, 0, 4, 2, -1, 0, 1, 1, 0));
        x.begin(1);
        due("with one", x::checksum, sum(1, 2, 0, 1, 2, 2, 1, 1, 3, 2, 1, 1, 4, 2, 2, 2, 1, 1, 0));
    }

    @Sentence(at = "Promise 30: checksum", says = "1 if the net has two colours, otherwise 0")
    static void checksumHasOneOrZeroForTheColours() {
        due("of an odd ring", () -> complete(3).checksum(), sum(1, 2, -1, 0, 2, 2, -1, 0, 3, 2, -1, 0, 1, 0, 0));
        due("of a chain", () -> chain(3).checksum(), sum(1, 1, -1, 0, 2, 2, -1, 0, 3, 1, -1, 0, 1, 1, 0));
    }

    @Sentence(at = "Promise 30: checksum", says = "how many places the change has, and for each of these its key and the length that it had")
    static void checksumHasTheChange() {
        Layerways x = from(1, net(upTo(3), 2, 3));
        x.street(1, 3);
        due("with two that had none", x::checksum,
                sum(1, 1, 0, 1, 2, 1, 2, 1, 3, 2, 1, 1, 1, 1, 2, 2, -1, 3, -1));
        x.tear(2, 3);
        due("with one that had 2", x::checksum, sum(1, 1, 0, 1, 2, 0, -1, 0, 3, 1, 1, 1, 2, 1, 1, 2, 2));
        x.begin(1);
        due("with none", x::checksum, sum(1, 1, 0, 1, 2, 0, -1, 0, 3, 1, 1, 1, 2, 1, 0));
    }

    @Sentence(at = "Promise 30: checksum", says = "a long that goes round")
    static void checksumGoesRoundAsALong() {
        // Three places already go beyond an int, four beyond a long.
        due("of a place", () -> net(new int[] {MAX}).checksum(), sum(MAX, 0, -1, 0, 1, 1, 0));
        due("of the least key", () -> net(new int[] {MIN}).checksum(), sum(MIN, 0, -1, 0, 1, 1, 0));
        long[] terms = new long[4 * 12 + 3];
        for (int at = 0; at < 12; at++) {
            terms[4 * at] = MAX - 11 + at;
            terms[4 * at + 1] = 11;
            terms[4 * at + 2] = at == 0 ? 0 : 1;
            terms[4 * at + 3] = 1;
        }
        terms[48] = 1;
        Layerways x = new Layerways();
        for (int at = 0; at < 12; at++) {
            x.place(MAX - at);
            for (int other = 0; other < at; other++) {
                x.street(MAX - at, MAX - other);
            }
        }
        x.begin(MAX - 11);
        due("of a full net with the greatest keys", x::checksum, sum(terms));
    }
}
