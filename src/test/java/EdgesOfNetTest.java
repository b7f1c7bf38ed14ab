/** The sentences of the promises 1 to 9, the net, that name a boundary case. */
public final class EdgesOfNetTest extends Edges {
    private static final int[] NO_NUMBERS = {-1, MIN, MAX};

    public static void main(String[] args) {
        run(EdgesOfNetTest.class, args);
    }

    // ---- 1 a new object

    @Sentence(at = "Promise 1: A new object", says = "Creates a net without places.")
    static void aNewNetIsWithoutPlaces() {
        due("places()", () -> new Layerways().places(), 0);
        Layerways x = net(upTo(3), 1, 2);
        Layerways y = new Layerways();
        due("places() of one made behind another", y::places, 0);
        due("streets() of it", y::streets, 0);
        y.place(9);
        due("keys of the other one", () -> keysOf(x), "1 2 3");
    }

    // ---- 2 place

    @Sentence(at = "Promise 2: place", says = "Returns how many places there are then.")
    static void placeTellsHowManyThereAreThen() {
        Layerways x = new Layerways();
        for (int key = 1; key <= 12; key++) {
            int next = key;
            due("place(" + key + ")", () -> x.place(next), key);
        }
    }

    @Sentence(at = "Promise 2: place", says = "if a place has that key")
    static void placeIfAPlaceHasThatKey() {
        Layerways x = net(new int[] {10, MIN, MAX});
        due("place(10)", () -> x.place(10), ARGUMENT);
        due("place(MIN)", () -> x.place(MIN), ARGUMENT);
        due("place(MAX)", () -> x.place(MAX), ARGUMENT);
        due("place(9), just below", () -> x.place(9), 4);
        due("place(11), just above", () -> x.place(11), 5);
        x.leave(10);
        due("place(10) once it is gone", () -> x.place(10), 5);
        due("place(0), which none had", () -> x.place(0), 6);
        due("place(0) again", () -> x.place(0), ARGUMENT);
    }

    @Sentence(at = "Promise 2: place", says = "if there are 12 places")
    static void placeIfThereAre12Places() {
        Layerways x = net(upTo(11));
        due("place(0), the 12th", () -> x.place(0), 12);
        due("place(MIN), the 13th", () -> x.place(MIN), STATE);
        due("place(MAX), the 13th", () -> x.place(MAX), STATE);
        due("place(5), one that is there", () -> x.place(5), ARGUMENT);
        x.leave(0);
        due("place(MAX) once one is gone", () -> x.place(MAX), 12);
        due("place(0), again the 13th", () -> x.place(0), STATE);
    }

    @Sentence(at = "Promise 2: place", says = "Puts a place into the net.")
    static void placeComesWithoutStreetsAndMovesNone() {
        Layerways x = from(20, net(new int[] {10, 20, 30}, 10, 20, 20, 30));
        x.place(15);
        due("streets after 15, between two", () -> streetsOf(x), "10-20 20-30");
        x.place(MIN);
        due("streets after MIN, ahead of all", () -> streetsOf(x), "10-20 20-30");
        x.place(MAX);
        due("streets after MAX, behind all", () -> streetsOf(x), "10-20 20-30");
        due("lengths", () -> lengthsOf(x), "-1 1 -1 0 1 -1");
        due("parts()", x::parts, 4);
    }

    // ---- 3 leave

    @Sentence(at = "Promise 3: leave", says = "Takes a place out of the net, with its streets")
    static void leaveTakesAPlaceWithItsStreetsAndNoOthers() {
        Layerways x = complete(4);
        x.leave(1);
        due("streets without 1, the first", () -> streetsOf(x), "2-3 2-4 3-4");
        Layerways y = complete(4);
        y.leave(4);
        due("streets without 4, the last", () -> streetsOf(y), "1-2 1-3 2-3");
        Layerways z = complete(4);
        z.leave(2);
        due("streets without 2, between", () -> streetsOf(z), "1-3 1-4 3-4");
        z.place(2);
        due("streets with 2 again, which has none", () -> streetsOf(z), "1-3 1-4 3-4");
        Layerways one = net(new int[] {5});
        one.leave(5);
        due("places() without the only one", one::places, 0);
    }

    @Sentence(at = "Promise 3: leave", says = "if it is the start, there is no start then")
    static void leaveOfTheStartLeavesNoStart() {
        Layerways x = from(1, chain(3));
        x.leave(1);
        due("length(2)", () -> x.length(2), STATE);
        due("farthest()", x::farthest, STATE);
        x.place(1);
        due("length(1), a new place with that key", () -> x.length(1), STATE);
        Layerways y = from(12, complete(12));
        y.leave(12);
        due("comes(0) of a net that was full", () -> y.comes(0), STATE);
        Layerways z = from(5, net(new int[] {5}));
        z.leave(5);
        due("mean() of a net that is empty then", z::mean, STATE);
    }

    @Sentence(at = "Promise 3: leave", says = "if it is the start, there is no start then")
    static void leaveOfAnotherPlaceLeavesTheStart() {
        Layerways x = from(3, chain(5));
        x.leave(1);
        due("queue without a lesser key", () -> queueOf(x), "3 2 4 5 " + INDEX);
        x.leave(5);
        due("queue without a greater key", () -> queueOf(x), "3 2 4 " + INDEX);
        Layerways y = from(1, net(new int[] {0, 1}));
        y.leave(0);
        due("comes(0) without the first place", () -> y.comes(0), 1);
    }

    @Sentence(at = "Promise 3: leave", says = "Returns how many streets went.")
    static void leaveTellsHowManyStreetsWent() {
        Layerways x = complete(12);
        for (int key = 1; key <= 12; key++) {
            int next = key;
            due("leave(" + key + ")", () -> x.leave(next), 12 - key);
        }
        Layerways y = net(upTo(3), 1, 2);
        due("leave(3) without streets", () -> y.leave(3), 0);
        due("leave(2)", () -> y.leave(2), 1);
        due("leave(1), whose street went", () -> y.leave(1), 0);
    }

    @Sentence(at = "Promise 3: leave", says = "if there is no such place")
    static void leaveIfThereIsNoSuchPlace() {
        Layerways x = new Layerways();
        due("leave(0) of nothing", () -> x.leave(0), ELEMENT);
        x.place(5);
        due("leave(0)", () -> x.leave(0), ELEMENT);
        due("leave(4)", () -> x.leave(4), ELEMENT);
        due("leave(6)", () -> x.leave(6), ELEMENT);
        due("leave(5)", () -> x.leave(5), 0);
        due("leave(5), which is gone", () -> x.leave(5), ELEMENT);
        Layerways full = net(upTo(12));
        due("leave(13) of a full one", () -> full.leave(13), ELEMENT);
        full.leave(12);
        due("leave(12), which was the last", () -> full.leave(12), ELEMENT);
    }

    // ---- 4 street

    @Sentence(at = "Promise 4: street", says = "Returns how many places the change has.")
    static void streetTellsHowManyPlacesTheChangeHas() {
        Layerways x = chain(12);
        x.tear(1, 2);
        x.begin(1);
        due("street(1, 2), all others", () -> x.street(1, 2), 11);
        due("street(1, 3)", () -> x.street(1, 3), 10);
        due("street(2, 3), none", () -> x.street(2, 3), STATE);
        due("street(2, 4), none", () -> x.street(2, 4), 0);
        due("street(11, 1)", () -> x.street(11, 1), 5);
    }

    @Sentence(at = "Promise 4: street", says = "if there is no such place, for either")
    static void streetIfThereIsNoSuchPlaceForEither() {
        Layerways x = net(upTo(2));
        due("street(0, 1)", () -> x.street(0, 1), ELEMENT);
        due("street(1, 0)", () -> x.street(1, 0), ELEMENT);
        due("street(3, 2)", () -> x.street(3, 2), ELEMENT);
        due("street(2, 3)", () -> x.street(2, 3), ELEMENT);
        due("street(0, 3)", () -> x.street(0, 3), ELEMENT);
        x.leave(2);
        due("street(1, 2), which is gone", () -> x.street(1, 2), ELEMENT);
        due("street(2, 1), which is gone", () -> x.street(2, 1), ELEMENT);
        due("streets()", x::streets, 0);
    }

    @Sentence(at = "Promise 4: street", says = "if both are the same")
    static void streetIfBothAreTheSame() {
        Layerways x = from(2, complete(3));
        due("street(1, 1), the first", () -> x.street(1, 1), ARGUMENT);
        due("street(2, 2), the start", () -> x.street(2, 2), ARGUMENT);
        due("street(3, 3), the last", () -> x.street(3, 3), ARGUMENT);
        Layerways y = net(new int[] {0});
        due("street(0, 0) of one without streets", () -> y.street(0, 0), ARGUMENT);
    }

    @Sentence(at = "Promise 4: street", says = "if there is a street between them")
    static void streetIfThereIsAStreetBetweenThem() {
        Layerways x = net(upTo(4), 1, 2, 2, 3);
        due("street(1, 2)", () -> x.street(1, 2), STATE);
        due("street(2, 1)", () -> x.street(2, 1), STATE);
        due("street(1, 3), a way but no street", () -> x.street(1, 3), 0);
        due("street(3, 4), none there", () -> x.street(3, 4), 0);
        due("street(3, 1), just put", () -> x.street(3, 1), STATE);
        x.tear(1, 2);
        due("street(2, 1) once it is gone", () -> x.street(2, 1), 0);
        x.leave(1);
        x.place(1);
        due("street(1, 2) once it went with 1", () -> x.street(1, 2), 0);
    }

    // ---- 5 tear

    @Sentence(at = "Promise 5: tear", says = "Takes a street away.")
    static void tearTakesOneStreetAway() {
        Layerways x = complete(4);
        x.tear(4, 2);
        due("streets", () -> streetsOf(x), "1-2 1-3 1-4 2-3 3-4");
        x.tear(1, 2);
        due("streets then", () -> streetsOf(x), "1-3 1-4 2-3 3-4");
        due("places()", x::places, 4);
    }

    @Sentence(at = "Promise 5: tear", says = "Returns how many places the change has.")
    static void tearTellsHowManyPlacesTheChangeHas() {
        Layerways x = from(1, chain(12));
        due("tear(1, 2), all others", () -> x.tear(1, 2), 11);
        due("tear(2, 3), none", () -> x.tear(2, 3), 0);
        Layerways y = from(1, circle(upTo(4)));
        due("tear(1, 2)", () -> y.tear(1, 2), 1);
        due("tear(3, 4)", () -> y.tear(3, 4), 2);
    }

    @Sentence(at = "Promise 5: tear", says = "if there is no such place, for either")
    static void tearIfThereIsNoSuchPlaceForEither() {
        Layerways x = net(upTo(2), 1, 2);
        due("tear(0, 1)", () -> x.tear(0, 1), ELEMENT);
        due("tear(1, 0)", () -> x.tear(1, 0), ELEMENT);
        due("tear(2, 3)", () -> x.tear(2, 3), ELEMENT);
        due("tear(3, 2)", () -> x.tear(3, 2), ELEMENT);
        due("tear(0, 0)", () -> x.tear(0, 0), ELEMENT);
        x.leave(2);
        due("tear(1, 2), which is gone", () -> x.tear(1, 2), ELEMENT);
    }

    @Sentence(at = "Promise 5: tear", says = "or no street between them")
    static void tearIfThereIsNoStreetBetweenThem() {
        Layerways x = net(upTo(3), 1, 2, 2, 3);
        due("tear(1, 3), a way but no street", () -> x.tear(1, 3), ELEMENT);
        due("tear(3, 1)", () -> x.tear(3, 1), ELEMENT);
        due("tear(2, 2), both the same", () -> x.tear(2, 2), ELEMENT);
        due("tear(1, 2)", () -> x.tear(1, 2), 0);
        due("tear(1, 2), which is gone", () -> x.tear(1, 2), ELEMENT);
        due("tear(2, 1), which is gone", () -> x.tear(2, 1), ELEMENT);
        due("streets", () -> streetsOf(x), "2-3");
    }

    // ---- 6 to 8 places, streets, isStreet

    @Sentence(at = "Promise 6: places", says = "Returns how many places there are.")
    static void placesFromNoneToTwelve() {
        Layerways x = new Layerways();
        due("of nothing", x::places, 0);
        x.place(MIN);
        due("of one", x::places, 1);
        due("of a full net", () -> net(upTo(12)).places(), 12);
        x.leave(MIN);
        due("of nothing again", x::places, 0);
    }

    @Sentence(at = "Promise 7: streets", says = "Returns how many streets there are.")
    static void streetsFromNoneToAll() {
        due("of nothing", () -> new Layerways().streets(), 0);
        due("of places alone", () -> net(upTo(12)).streets(), 0);
        due("of two", () -> net(upTo(2), 2, 1).streets(), 1);
        Layerways x = complete(12);
        due("of all", x::streets, 66);
        x.leave(1);
        due("of all without a place", x::streets, 55);
    }

    @Sentence(at = "Promise 8: isStreet", says = "Tells whether there is a street between two places.")
    static void isStreetTellsOfNoStreetFromAPlaceToItself() {
        Layerways x = complete(12);
        due("isStreet(1, 1)", () -> x.isStreet(1, 1), false);
        due("isStreet(12, 12)", () -> x.isStreet(12, 12), false);
        due("isStreet(1, 12)", () -> x.isStreet(1, 12), true);
        due("isStreet(12, 1)", () -> x.isStreet(12, 1), true);
        Layerways y = chain(3);
        due("isStreet(1, 3), a way but no street", () -> y.isStreet(1, 3), false);
    }

    @Sentence(at = "Promise 8: isStreet", says = "if there is no such place, for either")
    static void isStreetIfThereIsNoSuchPlaceForEither() {
        Layerways x = net(upTo(2), 1, 2);
        due("isStreet(0, 1)", () -> x.isStreet(0, 1), ELEMENT);
        due("isStreet(1, 0)", () -> x.isStreet(1, 0), ELEMENT);
        due("isStreet(2, 3)", () -> x.isStreet(2, 3), ELEMENT);
        due("isStreet(3, 2)", () -> x.isStreet(3, 2), ELEMENT);
        due("isStreet(3, 3)", () -> x.isStreet(3, 3), ELEMENT);
        x.leave(1);
        due("isStreet(2, 1), which is gone", () -> x.isStreet(2, 1), ELEMENT);
    }

    // ---- 9 keyAt

    @Sentence(at = "Promise 9: keyAt", says = "its number, from 0, by rising keys")
    static void keyAtGoesFromZeroByRisingKeys() {
        Layerways x = net(new int[] {MAX, 3, MIN, -3, 0});
        due("keys", () -> keysOf(x), MIN + " -3 0 3 " + MAX);
        x.leave(-3);
        x.place(-4);
        x.place(1);
        due("keys then", () -> keysOf(x), MIN + " -4 0 1 3 " + MAX);
    }

    @Sentence(at = "Promise 9: keyAt", says = "if there is no such number")
    static void keyAtIfThereIsNoSuchNumber() {
        Layerways x = new Layerways();
        due("keyAt(0) of nothing", () -> x.keyAt(0), INDEX);
        x.place(7);
        due("keyAt(0), the only one", () -> x.keyAt(0), 7);
        due("keyAt(1), as many as there are", () -> x.keyAt(1), INDEX);
        dueFor("keyAt of one", NO_NUMBERS, x::keyAt, INDEX);
        Layerways full = net(upTo(12));
        due("keyAt(11), the last", () -> full.keyAt(11), 12);
        due("keyAt(12), as many as there are", () -> full.keyAt(12), INDEX);
        dueFor("keyAt of a full net", NO_NUMBERS, full::keyAt, INDEX);
        full.leave(5);
        due("keyAt(11) once one is gone", () -> full.keyAt(11), INDEX);
        due("keyAt(10) once one is gone", () -> full.keyAt(10), 12);
    }
}
