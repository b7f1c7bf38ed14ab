import java.util.Arrays;
import java.util.function.Supplier;

/** Promise by promise: ordinary calls, the edges that the document names, and wrong calls, with answers worked out by hand. */
public final class PromisesTest extends Nets {
    private static String promise = "";

    public static void main(String[] args) {
        newObject();
        place();
        leave();
        street();
        tear();
        places();
        streets();
        isStreet();
        keyAt();
        begin();
        length();
        farthest();
        layer();
        comes();
        ways();
        wayAt();
        through();
        isOnAll();
        onAll();
        mean();
        between();
        parts();
        isTwoColours();
        colour();
        ring();
        ringAt();
        changedAt();
        wasAt();
        isTrue();
        checksum();
        Check.end();
    }

    private static void due(String what, Supplier<Object> call, Object due) {
        Check.due(promise + ": " + what, call, due);
    }

    /** A call that throws, and leaves all as it was. */
    private static void refused(String what, Layerways x, Supplier<Object> call, String due) {
        String before = briefOf(x);
        due(what, call, due);
        Check.same(promise + ": all after " + what, briefOf(x), before);
    }

    private static void newObject() {
        promise = "1 new";
        Layerways x = new Layerways();
        due("places()", x::places, 0);
        due("streets()", x::streets, 0);
        due("keyAt(0)", () -> x.keyAt(0), INDEX);
        due("farthest()", x::farthest, STATE);
        due("layer(0)", () -> x.layer(0), STATE);
        due("comes(0)", () -> x.comes(0), STATE);
        due("mean()", x::mean, STATE);
        due("length(0)", () -> x.length(0), ELEMENT);
        due("parts()", x::parts, 0);
        due("isTwoColours()", x::isTwoColours, true);
        due("changedAt(0)", () -> x.changedAt(0), INDEX);
        due("wasAt(0)", () -> x.wasAt(0), INDEX);
        due("isTrue()", x::isTrue, true);
        Layerways y = new Layerways();
        y.place(0);
        due("places() of another one", x::places, 0);
    }

    private static void place() {
        promise = "2 place";
        Layerways x = new Layerways();
        due("place(5)", () -> x.place(5), 1);
        due("place(MIN)", () -> x.place(MIN), 2);
        due("place(MAX)", () -> x.place(MAX), 3);
        due("place(0)", () -> x.place(0), 4);
        due("place(-1)", () -> x.place(-1), 5);
        refused("place(5) again", x, () -> x.place(5), ARGUMENT);
        refused("place(MIN) again", x, () -> x.place(MIN), ARGUMENT);
        for (int key = 6; key <= 12; key++) {
            int next = key;
            due("place(" + key + ")", () -> x.place(next), key);
        }
        refused("place(13), the 13th", x, () -> x.place(13), STATE);
        refused("place(12), there and the 13th", x, () -> x.place(12), ARGUMENT);
        x.leave(5);
        due("place(13) after leave(5)", () -> x.place(13), 12);

        // The places between which the new one comes keep their streets, the start and their lengths.
        Layerways y = net(new int[] {10, 20, 30}, 10, 20, 20, 30);
        y.begin(10);
        y.tear(20, 30);
        due("change before", () -> changeOf(y), "30:2");
        y.place(15);
        due("change after place(15)", () -> changeOf(y), "");
        due("length(15)", () -> y.length(15), -1);
        due("length(20)", () -> y.length(20), 1);
        due("isStreet(10, 20)", () -> y.isStreet(10, 20), true);
        due("isStreet(10, 15)", () -> y.isStreet(10, 15), false);
        due("isStreet(15, 20)", () -> y.isStreet(15, 20), false);
        y.place(MIN);
        due("queue after place(MIN)", () -> queueOf(y), "10 20 " + INDEX);
        y.street(30, 20);
        due("change", () -> changeOf(y), "30:-1");
        refused("place(30) with a change", y, () -> y.place(30), ARGUMENT);
    }

    private static void leave() {
        promise = "3 leave";
        Layerways x = fanFrom(1);
        refused("leave(9)", x, () -> x.leave(9), ELEMENT);
        x.street(6, 7);
        due("change", () -> changeOf(x), "7:-1 8:-1");
        refused("leave(0)", x, () -> x.leave(0), ELEMENT);
        due("leave(3)", () -> x.leave(3), 2);
        due("change after leave(3)", () -> changeOf(x), "");
        due("streets()", x::streets, 7);
        due("places()", x::places, 7);
        due("queue", () -> queueOf(x), "1 2 4 5 6 7 8 " + INDEX);
        due("ways(5)", () -> x.ways(5), 2);
        due("leave(5)", () -> x.leave(5), 3);
        due("queue after leave(5)", () -> queueOf(x), "1 2 4 " + INDEX);
        due("isStreet(6, 7)", () -> x.isStreet(6, 7), true);
        due("isStreet(7, 8)", () -> x.isStreet(7, 8), true);
        due("isStreet(6, 8)", () -> x.isStreet(6, 8), false);
        due("length(5)", () -> x.length(5), ELEMENT);
        due("leave(1), the start", () -> x.leave(1), 2);
        due("length(2) without a start", () -> x.length(2), STATE);
        x.place(1);
        due("length(1), a new place, no start", () -> x.length(1), STATE);
        due("leave(1) without streets", () -> x.leave(1), 0);
        due("leave(1) again", () -> x.leave(1), ELEMENT);

        Layerways y = chain(12);
        y.begin(12);
        due("leave(1), the first", () -> y.leave(1), 1);
        due("length(2)", () -> y.length(2), 10);
        due("leave(12), the start and last", () -> y.leave(12), 1);
        due("farthest()", y::farthest, STATE);
        due("streets()", y::streets, 9);
        due("isStreet(10, 11)", () -> y.isStreet(10, 11), true);
    }

    private static void street() {
        promise = "4 street";
        Layerways x = net(upTo(6));
        due("street(1, 2) without a start", () -> x.street(1, 2), 0);
        x.begin(1);
        due("street(3, 4) apart", () -> x.street(3, 4), 0);
        due("street(2, 3)", () -> x.street(2, 3), 2);
        due("change", () -> changeOf(x), "3:-1 4:-1");
        due("street(5, 4), backwards", () -> x.street(5, 4), 1);
        due("street(1, 5)", () -> x.street(1, 5), 2);
        due("change", () -> changeOf(x), "4:3 5:4");
        refused("street(1, 2) again", x, () -> x.street(1, 2), STATE);
        refused("street(2, 1), the same", x, () -> x.street(2, 1), STATE);
        refused("street(3, 3)", x, () -> x.street(3, 3), ARGUMENT);
        refused("street(9, 9)", x, () -> x.street(9, 9), ELEMENT);
        refused("street(1, 9)", x, () -> x.street(1, 9), ELEMENT);
        refused("street(9, 1)", x, () -> x.street(9, 1), ELEMENT);
        due("street(4, 1)", () -> x.street(4, 1), 1);
        due("street(3, 5), no other length", () -> x.street(3, 5), 0);
        due("change", () -> changeOf(x), "");
        due("streets()", x::streets, 7);
    }

    private static void tear() {
        promise = "5 tear";
        Layerways x = fanFrom(1);
        due("tear(1, 3)", () -> x.tear(1, 3), 1);
        due("change", () -> changeOf(x), "3:1");
        due("length(3)", () -> x.length(3), 3);
        due("tear(5, 6)", () -> x.tear(5, 6), 1);
        due("change", () -> changeOf(x), "6:3");
        refused("tear(5, 6) again", x, () -> x.tear(5, 6), ELEMENT);
        refused("tear(1, 1)", x, () -> x.tear(1, 1), ELEMENT);
        refused("tear(1, 7), none", x, () -> x.tear(1, 7), ELEMENT);
        refused("tear(9, 1)", x, () -> x.tear(9, 1), ELEMENT);
        refused("tear(1, 9)", x, () -> x.tear(1, 9), ELEMENT);
        due("tear(8, 7), apart", () -> x.tear(8, 7), 0);
        due("change", () -> changeOf(x), "");
        due("tear(2, 1), backwards", () -> x.tear(2, 1), 1);
        due("tear(4, 5)", () -> x.tear(4, 5), 3);
        due("change", () -> changeOf(x), "2:3 3:3 5:2");
        due("streets()", x::streets, 3);
        Layerways y = fan();
        due("tear(1, 2) without a start", () -> y.tear(1, 2), 0);
    }

    private static void places() {
        promise = "6 places";
        Layerways x = new Layerways();
        due("places()", x::places, 0);
        for (int key = 1; key <= 12; key++) {
            x.place(-key);
            due("places()", x::places, key);
        }
        Check.outcome(() -> x.place(1));
        due("places() after a refusal", x::places, 12);
        x.leave(-4);
        due("places()", x::places, 11);
        x.street(-1, -2);
        x.begin(-1);
        due("places()", x::places, 11);
    }

    private static void streets() {
        promise = "7 streets";
        Layerways x = net(upTo(12));
        due("streets()", x::streets, 0);
        int many = 0;
        for (int one = 1; one <= 12; one++) {
            for (int other = 1; other < one; other++) {
                x.street(one, other);
                many++;
            }
        }
        due("streets(), all of them", x::streets, 66);
        due("streets() that were put", x::streets, many);
        x.tear(12, 1);
        due("streets()", x::streets, 65);
        x.leave(5);
        due("streets()", x::streets, 54);
    }

    private static void isStreet() {
        promise = "8 isStreet";
        Layerways x = fan();
        due("isStreet(1, 2)", () -> x.isStreet(1, 2), true);
        due("isStreet(2, 1)", () -> x.isStreet(2, 1), true);
        due("isStreet(1, 5)", () -> x.isStreet(1, 5), false);
        due("isStreet(7, 7)", () -> x.isStreet(7, 7), false);
        refused("isStreet(0, 1)", x, () -> x.isStreet(0, 1), ELEMENT);
        refused("isStreet(1, 0)", x, () -> x.isStreet(1, 0), ELEMENT);
        refused("isStreet(9, 9)", x, () -> x.isStreet(9, 9), ELEMENT);
        x.tear(2, 1);
        due("isStreet(1, 2) after tear", () -> x.isStreet(1, 2), false);
    }

    private static void keyAt() {
        promise = "9 keyAt";
        int[] keys = {7, MAX, -8, MIN, 0, 100};
        Layerways x = net(keys);
        int[] rising = keys.clone();
        Arrays.sort(rising);
        for (int at = 0; at < rising.length; at++) {
            int index = at;
            due("keyAt(" + at + ")", () -> x.keyAt(index), rising[at]);
        }
        refused("keyAt(6)", x, () -> x.keyAt(6), INDEX);
        refused("keyAt(-1)", x, () -> x.keyAt(-1), INDEX);
        refused("keyAt(MAX)", x, () -> x.keyAt(MAX), INDEX);
        refused("keyAt(MIN)", x, () -> x.keyAt(MIN), INDEX);
        x.leave(0);
        due("keyAt(2) after leave(0)", () -> x.keyAt(2), 7);
        refused("keyAt(5) after leave(0)", x, () -> x.keyAt(5), INDEX);
        Layerways full = net(upTo(12));
        due("keyAt(11)", () -> full.keyAt(11), 12);
        refused("keyAt(12)", full, () -> full.keyAt(12), INDEX);
    }

    private static void begin() {
        promise = "10 begin";
        Layerways x = fan();
        refused("begin(9) without a start", x, () -> x.begin(9), ELEMENT);
        due("begin(1)", () -> x.begin(1), 6);
        due("begin(7)", () -> x.begin(7), 2);
        due("length(8)", () -> x.length(8), 1);
        due("length(1)", () -> x.length(1), -1);
        refused("begin(9)", x, () -> x.begin(9), ELEMENT);
        x.tear(7, 8);
        due("change", () -> changeOf(x), "8:1");
        refused("begin(0) with a change", x, () -> x.begin(0), ELEMENT);
        due("begin(7), the start already", () -> x.begin(7), 1);
        due("change after begin", () -> changeOf(x), "");
    }

    private static void length() {
        promise = "11 length";
        Layerways x = fan();
        refused("length(1) without a start", x, () -> x.length(1), STATE);
        refused("length(9) without a start", x, () -> x.length(9), ELEMENT);
        x.begin(1);
        int[] due = {0, 1, 1, 1, 2, 3, -1, -1};
        for (int at = 0; at < due.length; at++) {
            int key = at + 1;
            due("length(" + key + ")", () -> x.length(key), due[at]);
        }
        refused("length(9)", x, () -> x.length(9), ELEMENT);
        Layerways y = chain(12);
        y.begin(1);
        due("length(12) of a chain", () -> y.length(12), 11);
    }

    private static void farthest() {
        promise = "12 farthest";
        Layerways x = fan();
        refused("farthest() without a start", x, x::farthest, STATE);
        x.begin(1);
        due("farthest() from 1", x::farthest, 3);
        x.begin(5);
        due("farthest() from 5", x::farthest, 2);
        x.begin(7);
        due("farthest() from 7", x::farthest, 1);
        x.leave(8);
        due("farthest() alone", x::farthest, 0);
        Layerways y = chain(12);
        y.begin(12);
        due("farthest() of a chain", y::farthest, 11);
    }

    private static void layer() {
        promise = "13 layer";
        Layerways x = fan();
        refused("layer(0) without a start", x, () -> x.layer(0), STATE);
        refused("layer(-1) without a start", x, () -> x.layer(-1), STATE);
        x.begin(1);
        due("layer(0)", () -> x.layer(0), 1);
        due("layer(1)", () -> x.layer(1), 3);
        due("layer(2)", () -> x.layer(2), 1);
        due("layer(3)", () -> x.layer(3), 1);
        due("layer(4)", () -> x.layer(4), 0);
        due("layer(-1), though 7 and 8 have none", () -> x.layer(-1), 0);
        due("layer(MIN)", () -> x.layer(MIN), 0);
        due("layer(MAX)", () -> x.layer(MAX), 0);
        Layerways y = manyWays();
        due("layer(3) of a full net", () -> y.layer(3), 4);
    }

    private static void comes() {
        promise = "14 comes";
        Layerways x = fan();
        refused("comes(0) without a start", x, () -> x.comes(0), STATE);
        refused("comes(-1) without a start", x, () -> x.comes(-1), STATE);
        x.begin(5);
        due("queue from 5", () -> queueOf(x), "5 2 3 4 6 1 " + INDEX);
        refused("comes(6)", x, () -> x.comes(6), INDEX);
        refused("comes(-1)", x, () -> x.comes(-1), INDEX);
        refused("comes(MAX)", x, () -> x.comes(MAX), INDEX);

        // Behind all others, not by keys in a layer: what 2 brings comes ahead of what 3 brings.
        Layerways y = net(upTo(7), 1, 2, 1, 3, 2, 7, 3, 4, 3, 6, 7, 5);
        y.begin(1);
        due("queue from 1", () -> queueOf(y), "1 2 3 7 4 6 5 " + INDEX);
        Layerways z = net(new int[] {MAX, MIN, 0, -1}, 0, MAX, 0, MIN, 0, -1);
        z.begin(0);
        due("queue from 0", () -> queueOf(z), "0 " + MIN + " -1 " + MAX + " " + INDEX);
    }

    private static void ways() {
        promise = "15 ways";
        Layerways x = fan();
        refused("ways(1) without a start", x, () -> x.ways(1), STATE);
        refused("ways(9) without a start", x, () -> x.ways(9), ELEMENT);
        x.begin(1);
        int[] due = {1, 1, 1, 1, 3, 3, 0, 0};
        for (int at = 0; at < due.length; at++) {
            int key = at + 1;
            due("ways(" + key + ")", () -> x.ways(key), due[at]);
        }
        refused("ways(9)", x, () -> x.ways(9), ELEMENT);
        Layerways y = manyWays();
        due("ways(12), as many as can be", () -> y.ways(12), 36);
        due("ways(8)", () -> y.ways(8), 9);
    }

    private static void wayAt() {
        promise = "16 wayAt";
        Layerways x = fan();
        refused("wayAt(1, 0, 0) without a start", x, () -> x.wayAt(1, 0, 0), STATE);
        refused("wayAt(1, -1, 0) without a start", x, () -> x.wayAt(1, -1, 0), STATE);
        refused("wayAt(9, 0, 0) without a start", x, () -> x.wayAt(9, 0, 0), ELEMENT);
        x.begin(1);
        due("way 0 to 6", () -> wayOf(x, 6, 0), "1 2 5 6 " + INDEX);
        due("way 1 to 6", () -> wayOf(x, 6, 1), "1 3 5 6 " + INDEX);
        due("way 2 to 6", () -> wayOf(x, 6, 2), "1 4 5 6 " + INDEX);
        due("way 3 to 6", () -> wayOf(x, 6, 3), INDEX);
        due("way 0 to 1, itself", () -> wayOf(x, 1, 0), "1 " + INDEX);
        refused("wayAt(1, 1, 0)", x, () -> x.wayAt(1, 1, 0), INDEX);
        refused("wayAt(6, -1, 0)", x, () -> x.wayAt(6, -1, 0), INDEX);
        refused("wayAt(6, 3, 0)", x, () -> x.wayAt(6, 3, 0), INDEX);
        refused("wayAt(6, 0, -1)", x, () -> x.wayAt(6, 0, -1), INDEX);
        refused("wayAt(6, 0, 4)", x, () -> x.wayAt(6, 0, 4), INDEX);
        refused("wayAt(6, MAX, MAX)", x, () -> x.wayAt(6, MAX, MAX), INDEX);
        refused("wayAt(7, 0, 0), no way", x, () -> x.wayAt(7, 0, 0), INDEX);
        refused("wayAt(7, -1, -1), no way", x, () -> x.wayAt(7, -1, -1), INDEX);
        refused("wayAt(9, 0, 0)", x, () -> x.wayAt(9, 0, 0), ELEMENT);
        Layerways y = manyWays();
        due("way 0 to 12", () -> wayOf(y, 12, 0), "1 2 5 8 12 " + INDEX);
        due("way 17 to 12", () -> wayOf(y, 12, 17), "1 3 6 9 12 " + INDEX);
        due("way 35 to 12", () -> wayOf(y, 12, 35), "1 4 7 11 12 " + INDEX);
        Layerways z = net(new int[] {5, -3, 40, 7}, 5, 7, 7, -3, 5, 40, 40, -3);
        z.begin(-3);
        due("way 0 from -3 to 5", () -> wayOf(z, 5, 0), "-3 7 5 " + INDEX);
        due("way 1 from -3 to 5", () -> wayOf(z, 5, 1), "-3 40 5 " + INDEX);
    }

    private static void through() {
        promise = "17 through";
        Layerways x = fan();
        refused("through(1, 1) without a start", x, () -> x.through(1, 1), STATE);
        refused("through(1, 9) without a start", x, () -> x.through(1, 9), ELEMENT);
        x.begin(1);
        due("through(6, 1), the first", () -> x.through(6, 1), 3);
        due("through(6, 6), the last", () -> x.through(6, 6), 3);
        due("through(6, 3)", () -> x.through(6, 3), 1);
        due("through(6, 5)", () -> x.through(6, 5), 3);
        due("through(5, 6), behind it", () -> x.through(5, 6), 0);
        due("through(2, 3), beside it", () -> x.through(2, 3), 0);
        due("through(6, 7), apart", () -> x.through(6, 7), 0);
        due("through(7, 1), no way", () -> x.through(7, 1), 0);
        due("through(7, 7), no way", () -> x.through(7, 7), 0);
        due("through(7, 8), no way", () -> x.through(7, 8), 0);
        due("through(1, 1)", () -> x.through(1, 1), 1);
        refused("through(9, 1)", x, () -> x.through(9, 1), ELEMENT);
        refused("through(1, 9)", x, () -> x.through(1, 9), ELEMENT);
        Layerways y = manyWays();
        due("through(12, 3)", () -> y.through(12, 3), 12);
        due("through(12, 11)", () -> y.through(12, 11), 9);
    }

    private static void isOnAll() {
        promise = "18 isOnAll";
        Layerways x = fan();
        refused("isOnAll(1, 1) without a start", x, () -> x.isOnAll(1, 1), STATE);
        refused("isOnAll(9, 1) without a start", x, () -> x.isOnAll(9, 1), ELEMENT);
        x.begin(1);
        due("isOnAll(6, 1), the first", () -> x.isOnAll(6, 1), true);
        due("isOnAll(6, 6), the last", () -> x.isOnAll(6, 6), true);
        due("isOnAll(6, 5)", () -> x.isOnAll(6, 5), true);
        due("isOnAll(6, 2)", () -> x.isOnAll(6, 2), false);
        due("isOnAll(5, 6)", () -> x.isOnAll(5, 6), false);
        due("isOnAll(6, 7)", () -> x.isOnAll(6, 7), false);
        due("isOnAll(1, 1)", () -> x.isOnAll(1, 1), true);
        due("isOnAll(1, 7)", () -> x.isOnAll(1, 7), false);
        refused("isOnAll(7, 1)", x, () -> x.isOnAll(7, 1), UNSUPPORTED);
        refused("isOnAll(7, 7)", x, () -> x.isOnAll(7, 7), UNSUPPORTED);
        refused("isOnAll(7, 9)", x, () -> x.isOnAll(7, 9), ELEMENT);
        refused("isOnAll(9, 7)", x, () -> x.isOnAll(9, 7), ELEMENT);
        x.tear(1, 2);
        x.tear(4, 5);
        due("isOnAll(6, 3), the only way", () -> x.isOnAll(6, 3), true);
    }

    private static void onAll() {
        promise = "19 onAll";
        Layerways x = fan();
        refused("onAll(1) without a start", x, () -> x.onAll(1), STATE);
        refused("onAll(9) without a start", x, () -> x.onAll(9), ELEMENT);
        x.begin(1);
        due("onAll(1), the start", () -> x.onAll(1), 1);
        due("onAll(2)", () -> x.onAll(2), 2);
        due("onAll(5)", () -> x.onAll(5), 2);
        due("onAll(6)", () -> x.onAll(6), 3);
        refused("onAll(7)", x, () -> x.onAll(7), UNSUPPORTED);
        refused("onAll(9)", x, () -> x.onAll(9), ELEMENT);
        Layerways y = chain(12);
        y.begin(1);
        due("onAll(12) of a chain", () -> y.onAll(12), 12);
    }

    private static void mean() {
        promise = "20 mean";
        Layerways x = fan();
        refused("mean() without a start", x, x::mean, STATE);
        x.begin(1);
        due("mean() from 1", x::mean, 8.0 / 6.0);
        x.begin(7);
        due("mean() from 7", x::mean, 0.5);
        x.tear(7, 8);
        due("mean() alone", x::mean, 0.0);
        Layerways y = chain(12);
        y.begin(1);
        due("mean() of a chain", y::mean, 5.5);
    }

    private static void between() {
        promise = "21 between";
        Layerways x = fan();
        due("between(1, 6) without a start", () -> x.between(1, 6), 3);
        due("between(6, 1)", () -> x.between(6, 1), 3);
        due("between(2, 3)", () -> x.between(2, 3), 2);
        due("between(4, 4)", () -> x.between(4, 4), 0);
        due("between(6, 7), no way", () -> x.between(6, 7), -1);
        due("between(7, 6), no way", () -> x.between(7, 6), -1);
        refused("between(1, 9)", x, () -> x.between(1, 9), ELEMENT);
        refused("between(9, 1)", x, () -> x.between(9, 1), ELEMENT);
        refused("between(9, 9)", x, () -> x.between(9, 9), ELEMENT);
        x.begin(7);
        due("between(1, 6) with another start", () -> x.between(1, 6), 3);
        due("length(8) after between", () -> x.length(8), 1);
    }

    private static void parts() {
        promise = "22 parts";
        Layerways x = new Layerways();
        due("parts() of nothing", x::parts, 0);
        for (int key = 12; key >= 1; key--) {
            x.place(key);
            due("parts()", x::parts, 13 - key);
        }
        x.street(1, 12);
        due("parts()", x::parts, 11);
        x.street(2, 11);
        due("parts()", x::parts, 10);
        x.street(12, 2);
        due("parts()", x::parts, 9);
        x.street(1, 11);
        due("parts(), a ring more", x::parts, 9);
        x.tear(12, 2);
        due("parts(), still", x::parts, 9);
        x.tear(1, 11);
        due("parts()", x::parts, 10);
        due("parts() of two", () -> fan().parts(), 2);
    }

    private static void isTwoColours() {
        promise = "23 isTwoColours";
        due("of nothing", () -> new Layerways().isTwoColours(), true);
        due("of one", () -> net(upTo(1)).isTwoColours(), true);
        due("of the fan", () -> fan().isTwoColours(), true);
        due("of a circle of 3", () -> circle(1, 2, 3).isTwoColours(), false);
        due("of a circle of 4", () -> circle(1, 2, 3, 4).isTwoColours(), true);
        due("of a circle of 11", () -> circle(5, 3, 9, 1, 11, 2, 10, 4, 8, 6, 7).isTwoColours(), false);
        due("of a circle of 12", () -> circle(5, 3, 9, 1, 11, 2, 12, 10, 4, 8, 6, 7).isTwoColours(), true);
        Layerways x = fan();
        x.street(7, 1);
        x.street(8, 1);
        due("of the fan with a circle of 3", x::isTwoColours, false);
        x.tear(7, 8);
        due("of the fan without it", x::isTwoColours, true);
    }

    private static void colour() {
        promise = "24 colour";
        Layerways x = fan();
        int[] due = {0, 1, 1, 1, 0, 1, 0, 1};
        for (int at = 0; at < due.length; at++) {
            int key = at + 1;
            due("colour(" + key + ")", () -> x.colour(key), due[at]);
        }
        refused("colour(9)", x, () -> x.colour(9), ELEMENT);
        x.begin(2);
        due("colour(1) from another start", () -> x.colour(1), 0);
        x.street(2, 3);
        refused("colour(7), an odd ring elsewhere", x, () -> x.colour(7), UNSUPPORTED);
        refused("colour(9), an odd ring", x, () -> x.colour(9), ELEMENT);
        Layerways y = net(new int[] {MAX, MIN, 0}, MAX, 0, 0, MIN);
        due("colour(MIN)", () -> y.colour(MIN), 0);
        due("colour(0)", () -> y.colour(0), 1);
        due("colour(MAX)", () -> y.colour(MAX), 0);
    }

    private static void ring() {
        promise = "25 ring";
        Layerways nothing = new Layerways();
        refused("ring() of nothing", nothing, nothing::ring, UNSUPPORTED);
        Layerways x = fan();
        refused("ring() of the fan", x, x::ring, UNSUPPORTED);
        due("ring() of a circle of 3", () -> circle(1, 2, 3).ring(), 3);
        due("ring() of a circle of 5", () -> circle(1, 2, 3, 4, 5).ring(), 5);
        due("ring() of a circle of 11", () -> circle(5, 3, 9, 1, 11, 2, 10, 4, 8, 6, 7).ring(), 11);
        Layerways y = circle(1, 2, 3, 4, 5, 6, 7, 8, 9);
        y.street(9, 5);
        due("ring() of one of 5 and one of 6", y::ring, 5);
        y.street(1, 3);
        due("ring() of 3, too", y::ring, 3);
        y.tear(1, 3);
        y.street(1, 6);
        due("ring() after", y::ring, 5);
    }

    private static void ringAt() {
        promise = "26 ringAt";
        Layerways x = fan();
        refused("ringAt(0) of the fan", x, () -> x.ringAt(0), UNSUPPORTED);
        refused("ringAt(-1) of the fan", x, () -> x.ringAt(-1), UNSUPPORTED);
        due("a circle of 3", () -> rowOf(circle(3, 1, 2)), "1 2 3");
        Layerways y = circle(5, 3, 9, 1, 11, 2, 10, 4, 8, 6, 7);
        due("a circle of 11", () -> rowOf(y), "1 9 3 5 7 6 8 4 10 2 11");
        refused("ringAt(11)", y, () -> y.ringAt(11), INDEX);
        refused("ringAt(-1)", y, () -> y.ringAt(-1), INDEX);
        refused("ringAt(MIN)", y, () -> y.ringAt(MIN), INDEX);
        // 1 is in no ring of 3; of the two that 2 is in, the one with 3 goes ahead.
        Layerways z = net(upTo(6), 1, 2, 2, 5, 5, 6, 6, 2, 2, 3, 3, 6, 4, 5);
        due("of two with 2", () -> rowOf(z), "2 3 6");
        // The ring of 3 goes ahead of one of 5 though that has the least key.
        Layerways w = net(upTo(8), 1, 2, 2, 3, 3, 4, 4, 5, 5, 1, 6, 7, 7, 8, 8, 6);
        due("of 3 and 5", () -> rowOf(w), "6 7 8");
        refused("ringAt(3)", w, () -> w.ringAt(3), INDEX);
    }

    private static void changedAt() {
        promise = "27 changedAt";
        Layerways x = chain(12);
        x.begin(1);
        refused("changedAt(0) after begin", x, () -> x.changedAt(0), INDEX);
        x.street(1, 11);
        due("change", () -> changeOf(x), "7:6 8:7 9:8 10:9 11:10 12:11");
        due("changedAt(0)", () -> x.changedAt(0), 7);
        due("changedAt(5)", () -> x.changedAt(5), 12);
        refused("changedAt(6)", x, () -> x.changedAt(6), INDEX);
        refused("changedAt(-1)", x, () -> x.changedAt(-1), INDEX);
        refused("changedAt(MAX)", x, () -> x.changedAt(MAX), INDEX);
        x.length(3);
        x.between(4, 9);
        x.isTrue();
        due("changedAt(5) after reading", () -> x.changedAt(5), 12);
        x.tear(1, 2);
        due("changedAt(0), a new change", () -> x.changedAt(0), 2);
    }

    private static void wasAt() {
        promise = "28 wasAt";
        Layerways x = net(new int[] {30, -10, 20, MIN, MAX}, 30, -10, -10, 20);
        x.begin(20);
        refused("wasAt(0) after begin", x, () -> x.wasAt(0), INDEX);
        x.street(MAX, 30);
        due("wasAt(0), none before", () -> x.wasAt(0), -1);
        x.street(20, MAX);
        due("change", () -> changeOf(x), MAX + ":3");
        x.tear(20, -10);
        due("change", () -> changeOf(x), "-10:1");
        x.tear(20, MAX);
        due("change, none after", () -> changeOf(x), "-10:3 30:2 " + MAX + ":1");
        refused("wasAt(3)", x, () -> x.wasAt(3), INDEX);
        refused("wasAt(-1)", x, () -> x.wasAt(-1), INDEX);
        refused("wasAt(MIN)", x, () -> x.wasAt(MIN), INDEX);
        x.place(0);
        refused("wasAt(0) after place", x, () -> x.wasAt(0), INDEX);
    }

    private static void isTrue() {
        promise = "29 isTrue";
        due("of nothing", () -> new Layerways().isTrue(), true);
        due("of the fan", () -> fan().isTrue(), true);
        due("of the fan with a start", () -> fanFrom(5).isTrue(), true);
        due("of the fan with another start", () -> fanFrom(8).isTrue(), true);
        due("of many ways", () -> manyWays().isTrue(), true);
        Layerways x = circle(5, 3, 9, 1, 11, 2, 10, 4, 8, 6, 7);
        due("of a circle of 11", x::isTrue, true);
        x.place(12);
        x.begin(12);
        due("of a circle and a start apart", x::isTrue, true);
        x.street(12, 5);
        x.street(12, 3);
        due("of two odd rings", x::isTrue, true);
        x.leave(12);
        due("of it without a start", x::isTrue, true);
    }

    private static void checksum() {
        promise = "30 checksum";
        // 7, then 0 parts, two colours, no change.
        due("of nothing", () -> new Layerways().checksum(), ((7L * 31 + 0) * 31 + 1) * 31 + 0);
        Layerways x = net(new int[] {4, -2}, 4, -2);
        due("without a start", x::checksum, go(7, -2, 1, -1, 0, 4, 1, -1, 0, 1, 1, 0));
        x.begin(4);
        due("with one", x::checksum, go(7, -2, 1, 1, 1, 4, 1, 0, 1, 1, 1, 0));
        x.tear(-2, 4);
        due("with a change", x::checksum, go(7, -2, 0, -1, 0, 4, 0, 0, 1, 2, 1, 1, -2, 1));
        x.place(MIN);
        x.place(MAX);
        x.street(MIN, MAX);
        x.street(4, MAX);
        due("with a greater change", x::checksum,
                go(7, MIN, 1, 2, 1, -2, 0, -1, 0, 4, 1, 0, 1, MAX, 2, 1, 1, 2, 1, 2, MIN, -1, MAX, -1));
        x.street(4, MIN);
        due("with an odd ring", x::checksum,
                go(7, MIN, 2, 1, 1, -2, 0, -1, 0, 4, 2, 0, 1, MAX, 2, 1, 1, 2, 0, 1, MIN, 2));
        due("twice the same", x::checksum, x.checksum());
    }

    private static long go(long first, long... terms) {
        long sum = first;
        for (long term : terms) {
            sum = 31 * sum + term;
        }
        return sum;
    }
}
