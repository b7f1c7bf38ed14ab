/** Nets for the tests, and rows of answers written out as texts. */
class Nets {
    static final int MIN = Integer.MIN_VALUE;
    static final int MAX = Integer.MAX_VALUE;
    static final String ARGUMENT = "throws.IllegalArgumentException";
    static final String STATE = "throws.IllegalStateException";
    static final String ELEMENT = "throws.NoSuchElementException";
    static final String INDEX = "throws.IndexOutOfBoundsException";
    static final String UNSUPPORTED = "throws.UnsupportedOperationException";

    static Layerways net(int[] keys, int... ends) {
        Layerways x = new Layerways();
        for (int key : keys) {
            x.place(key);
        }
        for (int at = 0; at + 1 < ends.length; at += 2) {
            x.street(ends[at], ends[at + 1]);
        }
        return x;
    }

    static Layerways from(int start, Layerways x) {
        x.begin(start);
        return x;
    }

    static int[] upTo(int last) {
        int[] keys = new int[last];
        for (int at = 0; at < last; at++) {
            keys[at] = at + 1;
        }
        return keys;
    }

    /** 1 to 2, 3, 4; these to 5; 5 to 6; 7 and 8 apart: with three ways from 1 to 5 and to 6. */
    static Layerways fan() {
        return net(upTo(8), 1, 2, 1, 3, 1, 4, 2, 5, 3, 5, 4, 5, 5, 6, 7, 8);
    }

    static Layerways fanFrom(int start) {
        return from(start, fan());
    }

    /** Twelve places with as many ways as there can be: 1, then four layers of which the inner ones have 3, 3 and 4. */
    static Layerways manyWays() {
        Layerways x = net(upTo(12));
        for (int one = 2; one <= 4; one++) {
            x.street(1, one);
            for (int two = 5; two <= 7; two++) {
                x.street(two, one);
            }
        }
        for (int three = 8; three <= 11; three++) {
            for (int two = 5; two <= 7; two++) {
                x.street(three, two);
            }
            x.street(12, three);
        }
        return from(1, x);
    }

    static Layerways chain(int last) {
        Layerways x = net(upTo(last));
        for (int key = 1; key < last; key++) {
            x.street(key, key + 1);
        }
        return x;
    }

    static Layerways circle(int... row) {
        Layerways x = net(row);
        for (int at = 0; at < row.length; at++) {
            x.street(row[at], row[(at + 1) % row.length]);
        }
        return x;
    }

    /** All streets that there can be between 1 and the last place. */
    static Layerways complete(int last) {
        Layerways x = net(upTo(last));
        for (int one = 1; one <= last; one++) {
            for (int other = 1; other < one; other++) {
                x.street(one, other);
            }
        }
        return x;
    }

    static String rowOf(Layerways x) {
        StringBuilder row = new StringBuilder();
        for (int at = 0; at < x.ring(); at++) {
            row.append(x.ringAt(at)).append(' ');
        }
        return row.toString().trim();
    }

    static String changeOf(Layerways x) {
        StringBuilder row = new StringBuilder();
        for (int at = 0; at < 13; at++) {
            int index = at;
            String key = Check.outcome(() -> x.changedAt(index));
            String was = Check.outcome(() -> x.wasAt(index));
            if (key.equals(INDEX) && was.equals(INDEX)) {
                break;
            }
            row.append(key).append(':').append(was).append(' ');
        }
        return row.toString().trim();
    }

    static String queueOf(Layerways x) {
        StringBuilder row = new StringBuilder();
        for (int at = 0; at < 13; at++) {
            int index = at;
            String key = Check.outcome(() -> x.comes(index));
            if (key.startsWith("throws.")) {
                return row + key;
            }
            row.append(key).append(' ');
        }
        return row.toString();
    }

    static String wayOf(Layerways x, int key, int number) {
        StringBuilder row = new StringBuilder();
        for (int at = 0; at < 13; at++) {
            int index = at;
            String place = Check.outcome(() -> x.wayAt(key, number, index));
            if (place.startsWith("throws.")) {
                return row + place;
            }
            row.append(place).append(' ');
        }
        return row.toString();
    }

    static String lengthsOf(Layerways x) {
        return eachOf(x, key -> Check.outcome(() -> x.length(key)));
    }

    static String coloursOf(Layerways x) {
        return eachOf(x, key -> Check.outcome(() -> x.colour(key)));
    }

    static String keysOf(Layerways x) {
        return eachOf(x, key -> String.valueOf(key));
    }

    static String streetsOf(Layerways x) {
        StringBuilder row = new StringBuilder();
        int[] keys = allKeys(x);
        for (int one = 0; one < keys.length; one++) {
            for (int other = one + 1; other < keys.length; other++) {
                int a = keys[one];
                int b = keys[other];
                String there = Check.outcome(() -> x.isStreet(a, b));
                if (!there.equals("false")) {
                    row.append(a).append('-').append(b).append(there.equals("true") ? " " : there + " ");
                }
            }
        }
        return row.toString().trim();
    }

    private static int[] allKeys(Layerways x) {
        int[] keys = new int[x.places()];
        for (int at = 0; at < keys.length; at++) {
            keys[at] = x.keyAt(at);
        }
        return keys;
    }

    private interface OfKey {
        String told(int key);
    }

    private static String eachOf(Layerways x, OfKey told) {
        StringBuilder row = new StringBuilder();
        for (int key : allKeys(x)) {
            row.append(told.told(key)).append(' ');
        }
        return row.toString().trim();
    }

    /** All that the document lets an object keep: places, streets, start and change, and the checksum; some 130 calls. */
    static String stateOf(Layerways x) {
        // The change first: a call that lost it on its way would lose it in both of two nets that are held together.
        StringBuilder all = new StringBuilder("change ").append(changeOf(x));
        all.append(", sum ").append(x.checksum());
        all.append(", start ").append(Check.outcome(() -> x.comes(0)));
        all.append(", ").append(x.places()).append(" places ").append(keysOf(x));
        all.append(", ").append(x.streets()).append(" streets ").append(streetsOf(x));
        return all.toString();
    }

    /** The same in few calls, for objects that are asked much: an object is promised for 512 calls alone. */
    static String briefOf(Layerways x) {
        return x.checksum() + ", " + x.streets() + " streets, start " + Check.outcome(() -> x.comes(0));
    }
}
