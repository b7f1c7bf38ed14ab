import java.util.TreeSet;

/** The sentences of the section "Terms" that name a boundary case, but those on exceptions; and that on 512 calls. */
public final class EdgesOfTermsTest extends Edges {
    private static final int[] KEYS_OF_ALL_KINDS = {MAX, 0, MIN, -1, 1, MIN + 1, MAX - 1};

    public static void main(String[] args) {
        run(EdgesOfTermsTest.class, args);
    }

    // ---- the theorem

    @Sentence(at = "Terms", says = "it has none just if no way leads there")
    static void aLengthIsThereJustIfAWayIs() {
        Layerways x = fanFrom(6);
        due("lengths from 6", () -> lengthsOf(x), "3 2 2 2 1 0 -1 -1");
        due("lengths from 8", () -> lengthsOf(fanFrom(8)), "-1 -1 -1 -1 -1 -1 1 0");
        due("lengths without streets", () -> lengthsOf(from(2, net(upTo(3)))), "-1 0 -1");
        due("the longest way that can be", () -> from(12, chain(12)).length(1), 11);
    }

    @Sentence(at = "Terms", says = "The length that is told of a place is the least one of all ways from the start to it")
    static void theLengthIsTheLeastThoughGreaterKeysMakeIt() {
        // From 1 to 5 by 2, 3, 4 there are four streets, by 9 two.
        Layerways x = net(new int[] {1, 2, 3, 4, 5, 9}, 1, 2, 2, 3, 3, 4, 4, 5, 1, 9, 9, 5);
        due("lengths", () -> lengthsOf(from(1, x)), "0 1 2 3 2 1");
    }

    @Sentence(at = "Terms", says = "The shortest ways that are told by numbers are all ways of that length, each once, in their order.")
    static void theWaysToldAreAllOfThemEachOnceInOrder() {
        Layerways x = manyWays();
        TreeSet<String> rising = new TreeSet<>();
        String before = "";
        for (int number = 0; number < 36; number++) {
            StringBuilder way = new StringBuilder();
            for (int index = 0; index < 5; index++) {
                way.append((char) ('a' + x.wayAt(12, number, index)));
            }
            same("way " + number + " behind the one before", String.valueOf(way.compareTo(new StringBuilder(before)) > 0), "true");
            before = way.toString();
            rising.add(before);
        }
        due("unlike ways", rising::size, 36);
        due("first way", rising::first, "bcfim");
        due("last way", rising::last, "behlm");
        due("a way more", () -> x.wayAt(12, 36, 0), INDEX);
    }

    @Sentence(at = "Terms", says = "just if without it no way of that length would be left")
    static void aPlaceIsOnAllThoughALongerWayIsLeftWithoutIt() {
        // Without 2 the way by 4 and 5 is left from 1 to 3, which is longer.
        Layerways x = from(1, net(upTo(5), 1, 2, 2, 3, 1, 4, 4, 5, 5, 3));
        due("isOnAll(3, 2)", () -> x.isOnAll(3, 2), true);
        due("isOnAll(3, 4), on the longer way", () -> x.isOnAll(3, 4), false);
        due("onAll(3)", () -> x.onAll(3), 3);
        // With 6 a way of that length is left without 2.
        x.place(6);
        x.street(1, 6);
        x.street(6, 3);
        due("isOnAll(3, 2) with a way beside it", () -> x.isOnAll(3, 2), false);
        due("onAll(3) with a way beside it", () -> x.onAll(3), 2);
    }

    @Sentence(at = "Terms", says = "Of a place to which a way leads another one, or itself, is told to lie on all shortest ways")
    static void aPlaceItselfIsOnAllWaysToIt() {
        Layerways x = fanFrom(1);
        for (int key = 1; key <= 6; key++) {
            int to = key;
            due("isOnAll(" + key + ", itself)", () -> x.isOnAll(to, to), true);
        }
        due("isOnAll(7, itself), no way", () -> x.isOnAll(7, 7), UNSUPPORTED);
    }

    @Sentence(at = "Terms", says = "The places come in the order of their lengths.")
    static void placesComeInTheOrderOfTheirLengths() {
        // The keys fall while the lengths rise.
        Layerways x = from(9, net(new int[] {1, 3, 5, 7, 8, 9}, 9, 8, 9, 7, 7, 1, 8, 3, 1, 5));
        due("queue", () -> queueOf(x), "9 7 8 1 3 5 " + INDEX);
        due("lengths", () -> lengthsOf(x), "2 2 3 1 1 0");
    }

    @Sentence(at = "Terms", says = "The net has two colours just if no ring has an odd number of streets")
    static void twoColoursJustIfNoOddRing() {
        due("no ring at all", () -> chain(12).isTwoColours(), true);
        due("even rings alone", () -> manyWays().isTwoColours(), true);
        due("the least odd ring", () -> circle(1, 2, 3).isTwoColours(), false);
        due("the greatest odd ring", () -> circle(upTo(11)).isTwoColours(), false);
        due("the greatest even ring", () -> circle(upTo(12)).isTwoColours(), true);
        // An odd ring in the last part, behind two parts without one.
        due("an odd ring in one part of three",
                () -> net(upTo(6), 2, 3, 4, 5, 5, 6, 6, 4).isTwoColours(), false);
    }

    @Sentence(at = "Terms", says = "otherwise the ring that is told is such a one, and no such one has fewer streets")
    static void theRingToldIsOddAndTheLeastOfTheOdd() {
        // A ring of 4 at 1 with fewer streets than the odd one of 5 at 5.
        Layerways x = net(upTo(9), 1, 2, 2, 3, 3, 4, 4, 1, 5, 6, 6, 7, 7, 8, 8, 9, 9, 5);
        due("ring of 5 beside one of 4", () -> rowOf(x), "5 6 7 8 9");
        Layerways y = net(upTo(8), 1, 2, 2, 3, 3, 4, 4, 5, 5, 1, 6, 7, 7, 8, 8, 6);
        due("ring of 3 behind one of 5", () -> rowOf(y), "6 7 8");
        Layerways z = net(upTo(12), 1, 2, 2, 3, 3, 4, 4, 5, 5, 6, 6, 7, 7, 1, 8, 9, 9, 10, 10, 11, 11, 12, 12, 8);
        due("ring of 5 behind one of 7", () -> rowOf(z), "8 9 10 11 12");
    }

    @Sentence(at = "Terms", says = "By a street that comes no length becomes greater")
    static void byAStreetThatComesNoLengthBecomesGreater() {
        Layerways x = from(1, chain(6));
        x.street(1, 4);
        due("lengths with a shorter way", () -> lengthsOf(x), "0 1 2 1 2 3");
        x.street(2, 4);
        due("lengths with a street in one layer", () -> lengthsOf(x), "0 1 2 1 2 3");
        x.street(1, 5);
        due("lengths with one more", () -> lengthsOf(x), "0 1 2 1 1 2");
    }

    @Sentence(at = "Terms", says = "by one that goes none becomes less")
    static void byAStreetThatGoesNoLengthBecomesLess() {
        Layerways x = from(1, circle(upTo(6)));
        due("lengths", () -> lengthsOf(x), "0 1 2 3 2 1");
        x.tear(1, 6);
        due("lengths without 1 to 6", () -> lengthsOf(x), "0 1 2 3 4 5");
        x.tear(5, 6);
        due("lengths without 5 to 6", () -> lengthsOf(x), "0 1 2 3 4 -1");
    }

    @Sentence(at = "Terms", says = "where none at all counts as greater than each")
    static void noLengthCountsAsGreaterThanEach() {
        Layerways x = from(1, chain(12));
        due("tear(11, 12), from 11 to none", () -> x.tear(11, 12), 1);
        due("change", () -> changeOf(x), "12:11");
        due("street(11, 12), from none to 11", () -> x.street(11, 12), 1);
        due("change", () -> changeOf(x), "12:-1");
        due("length(12)", () -> x.length(12), 11);
    }

    @Sentence(at = "Terms", says = "just the places of the change have another length then than before")
    static void theChangeHasJustThePlacesWithAnotherLength() {
        Layerways x = from(1, chain(6));
        // 4 stays at 3 by another way, 2 and 3 are as near as before.
        due("street(1, 6)", () -> x.street(1, 6), 2);
        due("change", () -> changeOf(x), "5:4 6:5");
        due("tear(3, 4)", () -> x.tear(3, 4), 0);
        due("change, as 4 has another way of 3", () -> changeOf(x), "");
    }

    // ---- net

    @Sentence(at = "Terms", says = "There are at most 12 places")
    static void thereAreTwelvePlacesAtMost() {
        Layerways x = net(upTo(11));
        due("the 12th", () -> x.place(12), 12);
        due("the 13th", () -> x.place(13), STATE);
        due("places()", x::places, 12);
        due("length(13)", () -> from(1, x).length(13), ELEMENT);
    }

    @Sentence(at = "Terms", says = "none at first")
    static void thereIsNoPlaceAtFirst() {
        Layerways x = new Layerways();
        due("places()", x::places, 0);
        for (int key : KEYS_OF_ALL_KINDS) {
            due("begin(" + key + ")", () -> x.begin(key), ELEMENT);
        }
        due("keyAt(0)", () -> x.keyAt(0), INDEX);
    }

    @Sentence(at = "Terms", says = "Each has a key, any int")
    static void anyIntIsAKeyInEachCall() {
        Layerways x = new Layerways();
        for (int at = 0; at < KEYS_OF_ALL_KINDS.length; at++) {
            int key = KEYS_OF_ALL_KINDS[at];
            due("place(" + key + ")", () -> x.place(key), at + 1);
        }
        due("keys", () -> keysOf(x), MIN + " " + (MIN + 1) + " -1 0 1 " + (MAX - 1) + " " + MAX);
        due("street(MAX, MIN)", () -> x.street(MAX, MIN), 0);
        due("begin(MIN)", () -> x.begin(MIN), 2);
        due("street(MAX, 0)", () -> x.street(MAX, 0), 1);
        due("changedAt(0)", () -> x.changedAt(0), 0);
        due("street(0, MIN)", () -> x.street(0, MIN), 1);
        due("street(MAX, -1)", () -> x.street(MAX, -1), 1);
        due("street(0, -1)", () -> x.street(0, -1), 0);
        due("isStreet(MIN, MAX)", () -> x.isStreet(MIN, MAX), true);
        due("length(MAX)", () -> x.length(MAX), 1);
        due("queue", () -> queueOf(x), MIN + " 0 " + MAX + " -1 " + INDEX);
        due("way 0 to -1", () -> wayOf(x, -1, 0), MIN + " 0 -1 " + INDEX);
        due("way 1 to -1", () -> wayOf(x, -1, 1), MIN + " " + MAX + " -1 " + INDEX);
        due("through(MAX, MIN)", () -> x.through(MAX, MIN), 1);
        due("isOnAll(MAX, MIN)", () -> x.isOnAll(MAX, MIN), true);
        due("onAll(MAX)", () -> x.onAll(MAX), 2);
        due("between(MAX, MIN + 1)", () -> x.between(MAX, MIN + 1), -1);
        due("ringAt(0)", () -> x.ringAt(0), MIN);
        due("ringAt(1)", () -> x.ringAt(1), 0);
        due("ringAt(2)", () -> x.ringAt(2), MAX);
        due("tear(MIN, MAX)", () -> x.tear(MIN, MAX), 1);
        due("change", () -> changeOf(x), MAX + ":1");
        due("colour(MAX)", () -> x.colour(MAX), UNSUPPORTED);
        due("leave(0)", () -> x.leave(0), 3);
        due("colour(MAX)", () -> x.colour(MAX), 1);
        due("colour(MIN)", () -> x.colour(MIN), 0);
        due("ways(MIN)", () -> x.ways(MIN), 1);
        due("leave(MIN)", () -> x.leave(MIN), 0);
        due("leave(MAX)", () -> x.leave(MAX), 1);
        due("keys", () -> keysOf(x), (MIN + 1) + " -1 1 " + (MAX - 1));
    }

    @Sentence(at = "Terms", says = "no two have the same")
    static void noTwoPlacesHaveTheSameKey() {
        Layerways x = net(new int[] {4, MIN, 9});
        due("place(4), the first put", () -> x.place(4), ARGUMENT);
        due("place(9), the last put", () -> x.place(9), ARGUMENT);
        due("place(MIN), the least", () -> x.place(MIN), ARGUMENT);
        due("keys", () -> keysOf(x), MIN + " 4 9");
    }

    @Sentence(at = "Terms", says = "A street joins two different places, which are neighbours then")
    static void aStreetJoinsTwoDifferentPlacesBothWays() {
        Layerways x = net(upTo(3));
        due("street(2, 2)", () -> x.street(2, 2), ARGUMENT);
        due("streets", () -> streetsOf(x), "");
        x.street(3, 1);
        due("isStreet(3, 1)", () -> x.isStreet(3, 1), true);
        due("isStreet(1, 3)", () -> x.isStreet(1, 3), true);
        due("length(3) from 1", () -> from(1, x).length(3), 1);
        due("length(1) from 3", () -> from(3, x).length(1), 1);
        due("streets", () -> streetsOf(x), "1-3");
    }

    @Sentence(at = "Terms", says = "between the same two there is one street at the most")
    static void oneStreetAtTheMostBetweenTheSameTwo() {
        Layerways x = net(upTo(2), 1, 2);
        due("street(1, 2)", () -> x.street(1, 2), STATE);
        due("street(2, 1)", () -> x.street(2, 1), STATE);
        due("streets()", x::streets, 1);
        due("tear(2, 1)", () -> x.tear(2, 1), 0);
        due("streets() then", x::streets, 0);
        due("street(2, 1) then", () -> x.street(2, 1), 0);
    }

    // ---- ways

    @Sentence(at = "Terms", says = "its length is the number of these places less 1")
    static void aWayHasOnePlaceMoreThanItsLength() {
        Layerways x = from(1, chain(12));
        for (int key = 1; key <= 12; key++) {
            int to = key;
            due("length(" + key + ")", () -> x.length(to), key - 1);
            due("last place of the way to " + key, () -> x.wayAt(to, 0, x.length(to)), key);
            due("place behind it", () -> x.wayAt(to, 0, x.length(to) + 1), INDEX);
        }
    }

    @Sentence(at = "Terms", says = "So a place alone is a way to itself, of the length 0.")
    static void aPlaceAloneIsAWayToItselfOfLengthZero() {
        Layerways x = from(2, net(upTo(3), 1, 3));
        due("length(2)", () -> x.length(2), 0);
        due("ways(2)", () -> x.ways(2), 1);
        due("way 0 to 2", () -> wayOf(x, 2, 0), "2 " + INDEX);
        due("between(2, 2)", () -> x.between(2, 2), 0);
        due("between(1, 1), with a neighbour", () -> x.between(1, 1), 0);
        due("onAll(2)", () -> x.onAll(2), 1);
        due("through(2, 2)", () -> x.through(2, 2), 1);
    }

    @Sentence(at = "Terms", says = "There is a start, which is a place, or none, as at first.")
    static void thereIsNoStartAtFirst() {
        // The key 0 and the first place are no start by themselves.
        Layerways x = net(new int[] {0, 1}, 0, 1);
        due("length(0)", () -> x.length(0), STATE);
        due("comes(0)", () -> x.comes(0), STATE);
        due("begin(1)", () -> x.begin(1), 2);
        due("comes(0), as there is one", () -> x.comes(0), 1);
    }

    @Sentence(at = "Terms", says = "the shortest ways to it are those of that length")
    static void waysThatAreLongerAreNoShortestOnes() {
        // 1, 2, 4 is one; 1, 3, 2, 4 and 1, 3, 5, 4 are longer.
        Layerways x = from(1, net(upTo(5), 1, 2, 2, 4, 1, 3, 3, 2, 3, 5, 5, 4));
        due("ways(4)", () -> x.ways(4), 1);
        due("ways(2), beside 1, 3, 2", () -> x.ways(2), 1);
        due("way 0 to 4", () -> wayOf(x, 4, 0), "1 2 4 " + INDEX);
    }

    @Sentence(at = "Terms", says = "These are numbered from 0 in the order of their keys")
    static void waysAreNumberedFromZero() {
        Layerways x = fanFrom(1);
        due("way -1 to 5", () -> wayOf(x, 5, -1), INDEX);
        due("way 0 to 5", () -> wayOf(x, 5, 0), "1 2 5 " + INDEX);
        due("way 1 to 5", () -> wayOf(x, 5, 1), "1 3 5 " + INDEX);
        due("way 2 to 5", () -> wayOf(x, 5, 2), "1 4 5 " + INDEX);
        due("way 3 to 5", () -> wayOf(x, 5, 3), INDEX);
    }

    @Sentence(at = "Terms", says = "of two ways that one goes ahead that has the lesser key where they first differ")
    static void waysGoByTheLesserKeyWhereTheyFirstDiffer() {
        // By the last but one the order would be turned: 2 leads on by 9, 3 by 4.
        Layerways x = from(1, net(new int[] {1, 2, 3, 4, 9, 10}, 1, 2, 1, 3, 2, 9, 3, 4, 9, 10, 4, 10));
        due("way 0 to 10", () -> wayOf(x, 10, 0), "1 2 9 10 " + INDEX);
        due("way 1 to 10", () -> wayOf(x, 10, 1), "1 3 4 10 " + INDEX);
        // The same from the end, where the ways differ late, too.
        Layerways y = from(10, net(new int[] {1, 2, 3, 5, 10, MIN}, 10, 5, 5, 3, 5, 2, 5, MIN, 3, 1, 2, 1, MIN, 1));
        due("way 0 to 1", () -> wayOf(y, 1, 0), "10 5 " + MIN + " 1 " + INDEX);
        due("way 1 to 1", () -> wayOf(y, 1, 1), "10 5 2 1 " + INDEX);
        due("way 2 to 1", () -> wayOf(y, 1, 2), "10 5 3 1 " + INDEX);
    }

    // ---- queue

    @Sentence(at = "Terms", says = "At first the start stands in a queue alone.")
    static void theStartComesFirstAndMayComeAlone() {
        due("queue of one place", () -> queueOf(from(5, net(new int[] {5}))), "5 " + INDEX);
        due("queue of a place apart", () -> queueOf(from(3, net(upTo(3), 1, 2))), "3 " + INDEX);
        due("queue from the greatest key", () -> queueOf(from(3, complete(3))), "3 1 2 " + INDEX);
    }

    @Sentence(at = "Terms", says = "those of its neighbours that never stood there are put behind all others there")
    static void placesThatStoodInTheQueueNeverStandThereAgain() {
        due("queue of all streets", () -> queueOf(from(2, complete(12))), "2 1 3 4 5 6 7 8 9 10 11 12 " + INDEX);
        due("queue of a circle", () -> queueOf(from(1, circle(upTo(4)))), "1 2 4 3 " + INDEX);
        // Behind all others: what 5 brings stands behind 6, and ahead of what 6 brings, be its key the least.
        Layerways x = from(4, net(upTo(6), 4, 5, 4, 6, 5, 3, 5, 2, 6, 1));
        due("queue", () -> queueOf(x), "4 5 6 2 3 1 " + INDEX);
    }

    @Sentence(at = "Terms", says = "are put behind all others there, by rising keys")
    static void neighboursAreBroughtByRisingKeys() {
        Layerways x = from(0, net(new int[] {0, 3, MAX, -2, MIN}, 0, 3, 0, MAX, 0, -2, 0, MIN));
        due("queue", () -> queueOf(x), "0 " + MIN + " -2 3 " + MAX + " " + INDEX);
    }

    // ---- parts, colours and rings

    @Sentence(at = "Terms", says = "Two places are in the same part if a way leads from the one to the other.")
    static void aPartIsWhatWaysLeadTo() {
        due("parts() of a place alone", () -> net(upTo(1)).parts(), 1);
        due("parts() of two", () -> net(upTo(2)).parts(), 2);
        due("parts() of two that are joined", () -> net(upTo(2), 1, 2).parts(), 1);
        // The ways lead from the least keys by the greatest.
        due("parts() of 1, 4, 2 and 3", () -> net(upTo(4), 1, 4, 4, 2).parts(), 2);
        due("parts() of a chain", () -> chain(12).parts(), 1);
    }

    @Sentence(at = "Terms", says = "each place can have 0 or 1 so that neighbours never have the same")
    static void neighboursNeverHaveTheSameColour() {
        due("colours of a chain", () -> coloursOf(chain(12)), "0 1 0 1 0 1 0 1 0 1 0 1");
        due("colours of a circle of 4", () -> coloursOf(circle(1, 2, 4, 3)), "0 1 1 0");
        due("colours of two with a street", () -> coloursOf(net(upTo(2), 1, 2)), "0 1");
        due("colours of three, each with each", () -> coloursOf(complete(3)), UNSUPPORTED + " " + UNSUPPORTED + " " + UNSUPPORTED);
    }

    @Sentence(at = "Terms", says = "the place with the least key of each part has 0; these are their colours then")
    static void theLeastKeyOfEachPartHasColourZero() {
        due("colours of places alone", () -> coloursOf(net(new int[] {MAX, -3, MIN, 8})), "0 0 0 0");
        // The parts lie in one another: MIN, 2 and 7; 1 and 5; 3 alone.
        Layerways x = net(new int[] {7, 5, 3, 2, 1, MIN}, MIN, 7, 7, 2, 5, 1);
        due("colours", () -> coloursOf(x), "0 0 0 0 1 1");
        x.begin(7);
        due("colours from another start", () -> coloursOf(x), "0 0 0 0 1 1");
        x.leave(MIN);
        due("colours without MIN", () -> coloursOf(x), "0 0 0 1 1");
    }

    @Sentence(at = "Terms", says = "A ring is a row of at least three places")
    static void aRingHasAtLeastThreePlaces() {
        due("two colours of a place alone", () -> net(upTo(1)).isTwoColours(), true);
        due("two colours of two with a street", () -> net(upTo(2), 1, 2).isTwoColours(), true);
        due("ring() of two with a street", () -> net(upTo(2), 1, 2).ring(), UNSUPPORTED);
        due("ring() of three", () -> complete(3).ring(), 3);
    }

    @Sentence(at = "Terms", says = "no two of them the same")
    static void aRingHasUnlikePlaces() {
        // A row of 5 that meets a place twice is there, but no ring of 5: the one of 7 is the only odd one.
        Layerways x = circle(1, 2, 3, 4, 5, 6, 7);
        x.place(8);
        x.street(8, 1);
        due("ring of 7 with a place hung on", () -> rowOf(x), "1 2 3 4 5 6 7");
        due("row of a circle of 11", () -> rowOf(circle(upTo(11))), "1 2 3 4 5 6 7 8 9 10 11");
        due("row of all streets", () -> rowOf(complete(12)), "1 2 3");
    }

    @Sentence(at = "Terms", says = "each one but the last is a neighbour of the next, and the last one of the first")
    static void aRingIsClosed() {
        due("ring() of a chain of 3", () -> chain(3).ring(), UNSUPPORTED);
        due("ring() of a chain of 11", () -> chain(11).ring(), UNSUPPORTED);
        // 1, 2, 3 would be less, but 3 is no neighbour of 1.
        Layerways x = net(upTo(5), 1, 2, 2, 3, 2, 4, 1, 4, 3, 5);
        due("row", () -> rowOf(x), "1 2 4");
    }

    @Sentence(at = "Terms", says = "it has as many streets as places")
    static void aRingHasAsManyStreetsAsPlaces() {
        for (int size = 3; size <= 11; size += 2) {
            Layerways x = circle(upTo(size));
            int many = size;
            due("ring() of a circle of " + size, x::ring, size);
            due("its last place", () -> x.ringAt(many - 1), size);
            due("the place behind it", () -> x.ringAt(many), INDEX);
        }
    }

    @Sentence(at = "Terms", says = "of the rings with an odd number of streets of which none has fewer, the first one in the order of keys")
    static void theOddRingIsTheFirstOfTheLeastOnes() {
        // Put in another order than that of the keys.
        Layerways x = net(upTo(9), 7, 8, 8, 9, 9, 7, 4, 5, 5, 6, 6, 4, 1, 2);
        due("row of two rings apart", () -> rowOf(x), "4 5 6");
        due("row with the key 0 in the other one", () -> rowOf(net(new int[] {7, 0, 9, 4, 5, 6}, 7, 0, 0, 9, 9, 7, 4, 5, 5, 6, 6, 4)), "0 7 9");
        due("row of all streets", () -> rowOf(complete(5)), "1 2 3");
    }

    @Sentence(at = "Terms", says = "as with ways, that one goes ahead that has the lesser key where two first differ")
    static void ringsGoByTheLesserKeyWhereTheyFirstDiffer() {
        // The row begins with the least key and goes to the lesser one of its two neighbours.
        due("row of a circle of 5", () -> rowOf(circle(3, 1, 5, 2, 4)), "1 3 4 2 5");
        // Both with 1 and 2, then with 3 or 4; and with 2 at first, or with 3.
        due("row of two rings with 1 and 2", () -> rowOf(net(upTo(4), 1, 2, 2, 4, 4, 1, 2, 3, 3, 1)), "1 2 3");
        due("row of two rings with 1", () -> rowOf(net(upTo(5), 1, 3, 3, 4, 4, 1, 1, 2, 2, 5, 5, 1)), "1 2 5");
        // Two of 5 that differ in the fourth place alone.
        due("row of two rings of 5", () -> rowOf(net(upTo(6), 1, 2, 2, 3, 3, 4, 4, 6, 6, 1, 3, 5, 5, 6)), "1 2 3 4 6");
    }

    // ---- the change

    @Sentence(at = "Terms", says = "By each street that is put or taken away the change becomes a new one")
    static void eachStreetMakesANewChangeBeItEmpty() {
        Layerways x = from(1, net(upTo(5), 4, 5));
        x.street(1, 2);
        due("change by 1 to 2", () -> changeOf(x), "2:-1");
        x.street(2, 3);
        due("change by 2 to 3", () -> changeOf(x), "3:-1");
        x.street(1, 3);
        due("change by 1 to 3", () -> changeOf(x), "3:2");
        x.tear(2, 3);
        due("change by 2 to 3 taken away, none", () -> changeOf(x), "");
        x.tear(1, 3);
        due("change by 1 to 3 taken away", () -> changeOf(x), "3:1");
        x.street(4, 3);
        due("change by 4 to 3, none", () -> changeOf(x), "");
        x.street(1, 5);
        due("change by 1 to 5", () -> changeOf(x), "3:-1 4:-1 5:-1");
        x.tear(4, 3);
        due("change by 4 to 3 taken away", () -> changeOf(x), "3:3");
        x.tear(2, 1);
        due("change by 2 to 1 taken away", () -> changeOf(x), "2:1");
    }

    @Sentence(at = "Terms", says = "the places that have another length then than before, none counted as one, too")
    static void noLengthCountsAsOneInTheChange() {
        Layerways x = from(1, net(upTo(4), 2, 3));
        due("street(1, 2), from none to some", () -> x.street(1, 2), 2);
        due("change", () -> changeOf(x), "2:-1 3:-1");
        due("tear(1, 2), from some to none", () -> x.tear(1, 2), 2);
        due("change", () -> changeOf(x), "2:1 3:2");
        due("tear(2, 3), from none to none", () -> x.tear(2, 3), 0);
        due("street(3, 4), from none to none", () -> x.street(3, 4), 0);
    }

    @Sentence(at = "Terms", says = "by rising keys, and the lengths that they had")
    static void theChangeGoesByRisingKeysWithTheLengthsBefore() {
        // The nearer ones have the greater keys.
        Layerways x = from(0, net(new int[] {0, 9, 5, MIN, MAX}, 9, 5, 5, MIN, MIN, MAX, 0, MAX));
        due("street(0, 9)", () -> x.street(0, 9), 2);
        due("change", () -> changeOf(x), "5:3 9:4");
        due("tear(0, MAX)", () -> x.tear(0, MAX), 2);
        due("change", () -> changeOf(x), MIN + ":2 " + MAX + ":1");
        due("tear(9, 0)", () -> x.tear(9, 0), 4);
        due("change", () -> changeOf(x), MIN + ":3 5:2 9:1 " + MAX + ":4");
    }

    @Sentence(at = "Terms", says = "without a start it has no places")
    static void withoutAStartTheChangeHasNoPlaces() {
        Layerways x = net(upTo(3));
        due("street(1, 2) ahead of any start", () -> x.street(1, 2), 0);
        due("change", () -> changeOf(x), "");
        due("tear(1, 2) ahead of any start", () -> x.tear(1, 2), 0);
        due("change", () -> changeOf(x), "");
        x.street(2, 3);
        x.begin(3);
        x.leave(3);
        due("street(1, 2) after the start went", () -> x.street(1, 2), 0);
        due("change", () -> changeOf(x), "");
        due("tear(1, 2) after the start went", () -> x.tear(1, 2), 0);
        due("change", () -> changeOf(x), "");
    }

    private static Layerways withAChange() {
        Layerways x = from(1, net(upTo(4), 1, 2, 3, 4));
        x.street(2, 3);
        due("change ahead", () -> changeOf(x), "3:-1 4:-1");
        return x;
    }

    @Sentence(at = "Terms", says = "By place(), leave() and begin(), and at first, it has none.")
    static void byPlaceTheChangeHasNone() {
        Layerways x = withAChange();
        x.place(5);
        due("change after place(5)", () -> changeOf(x), "");
        x.street(4, 5);
        due("change after a street to it", () -> changeOf(x), "5:-1");
    }

    @Sentence(at = "Terms", says = "By place(), leave() and begin(), and at first, it has none.")
    static void byLeaveTheChangeHasNone() {
        Layerways x = withAChange();
        x.leave(3);
        due("change after leave(3), by which 4 lost its length", () -> changeOf(x), "");
        due("length(4)", () -> x.length(4), -1);
        Layerways y = withAChange();
        y.leave(1);
        due("change after leave(1), the start", () -> changeOf(y), "");
        Layerways z = withAChange();
        z.place(9);
        z.street(9, 1);
        due("change ahead", () -> changeOf(z), "9:-1");
        z.place(8);
        z.street(1, 8);
        z.leave(9);
        due("change after leave(9), another one than it had", () -> changeOf(z), "");
    }

    @Sentence(at = "Terms", says = "By place(), leave() and begin(), and at first, it has none.")
    static void byBeginTheChangeHasNone() {
        Layerways x = withAChange();
        x.begin(4);
        due("change after begin(4)", () -> changeOf(x), "");
        Layerways y = withAChange();
        y.begin(1);
        due("change after begin(1), the start already", () -> changeOf(y), "");
        Layerways z = net(upTo(2), 1, 2);
        z.begin(1);
        due("change after the first begin", () -> changeOf(z), "");
    }

    @Sentence(at = "Terms", says = "By place(), leave() and begin(), and at first, it has none.")
    static void atFirstTheChangeHasNone() {
        Layerways x = new Layerways();
        due("changedAt(0)", () -> x.changedAt(0), INDEX);
        due("wasAt(0)", () -> x.wasAt(0), INDEX);
        due("checksum()", x::checksum, 7L * 31 * 31 * 31 + 31);
    }

    // ---- what it is

    @Sentence(at = "What it is", says = "An object is used for at most 512 calls after it has been made")
    static void theLastOf512CallsIsAnswered() {
        Layerways x = new Layerways();
        for (int call = 1; call <= 509; call++) {
            switch (call % 4) {
                case 1: x.place(call); break;
                case 2: x.begin(call - 1); break;
                case 3: x.checksum(); break;
                default: x.leave(call - 3); break;
            }
        }
        due("call 510", () -> x.place(2), 2);
        due("call 511", () -> x.street(2, 509), 0);
        due("call 512", () -> x.begin(509), 2);
    }
}
