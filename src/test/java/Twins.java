/** An object of the class and a SlowNet that get the same calls; each answer of the one is held against the other's. */
final class Twins {
    /** What an object answers behind its 512th call is free. */
    private static final int PROMISED = 512;

    private final String name;
    private final Layerways x = new Layerways();
    private final SlowNet y = new SlowNet();
    private int calls = 0;

    Twins(String name) {
        this.name = name;
    }

    SlowNet slow() {
        return y;
    }

    void dueWithinPromise() {
        Check.same(name + ": " + calls + " calls, no more than are promised", String.valueOf(calls <= PROMISED), "true");
    }

    /** With a look at the state after a call that is refused; a call more than is promised is left out. */
    void same(String call, int a, int b, int c) {
        if (calls + 2 > PROMISED) {
            return;
        }
        String got = sameAnswer(call, a, b, c);
        if (got.startsWith("throws.")) {
            sameAnswer("checksum", 0, 0, 0);
        }
    }

    String sameAnswer(String call, int a, int b, int c) {
        calls++;
        String got = Check.outcome(() -> onClass(call, a, b, c));
        String due = Check.outcome(() -> onSlowNet(call, a, b, c));
        Check.same(name + ": " + call + "(" + a + ", " + b + ", " + c + ")", got, due);
        return got;
    }

    private Object onClass(String call, int a, int b, int c) {
        switch (call) {
            case "place": return x.place(a);
            case "leave": return x.leave(a);
            case "street": return x.street(a, b);
            case "tear": return x.tear(a, b);
            case "places": return x.places();
            case "streets": return x.streets();
            case "isStreet": return x.isStreet(a, b);
            case "keyAt": return x.keyAt(a);
            case "begin": return x.begin(a);
            case "length": return x.length(a);
            case "farthest": return x.farthest();
            case "layer": return x.layer(a);
            case "comes": return x.comes(a);
            case "ways": return x.ways(a);
            case "wayAt": return x.wayAt(a, b, c);
            case "through": return x.through(a, b);
            case "isOnAll": return x.isOnAll(a, b);
            case "onAll": return x.onAll(a);
            case "mean": return x.mean();
            case "between": return x.between(a, b);
            case "parts": return x.parts();
            case "isTwoColours": return x.isTwoColours();
            case "colour": return x.colour(a);
            case "ring": return x.ring();
            case "ringAt": return x.ringAt(a);
            case "changedAt": return x.changedAt(a);
            case "wasAt": return x.wasAt(a);
            case "isTrue": return x.isTrue();
            default: return x.checksum();
        }
    }

    private Object onSlowNet(String call, int a, int b, int c) {
        switch (call) {
            case "place": return y.place(a);
            case "leave": return y.leave(a);
            case "street": return y.street(a, b);
            case "tear": return y.tear(a, b);
            case "places": return y.places();
            case "streets": return y.streets();
            case "isStreet": return y.isStreet(a, b);
            case "keyAt": return y.keyAt(a);
            case "begin": return y.begin(a);
            case "length": return y.length(a);
            case "farthest": return y.farthest();
            case "layer": return y.layer(a);
            case "comes": return y.comes(a);
            case "ways": return y.ways(a);
            case "wayAt": return y.wayAt(a, b, c);
            case "through": return y.through(a, b);
            case "isOnAll": return y.isOnAll(a, b);
            case "onAll": return y.onAll(a);
            case "mean": return y.mean();
            case "between": return y.between(a, b);
            case "parts": return y.parts();
            case "isTwoColours": return y.isTwoColours();
            case "colour": return y.colour(a);
            case "ring": return y.ring();
            case "ringAt": return y.ringAt(a);
            case "changedAt": return y.changedAt(a);
            case "wasAt": return y.wasAt(a);
            case "isTrue": return y.isTrue();
            default: return y.checksum();
        }
    }
}
