/** A call that is refused answers as due, and then nothing changes. */
final class Refused {
    interface Call {
        long of(PlainGeometry x);
    }

    private Refused() {
    }

    /** Makes two objects alike and asks one of them alone: they are alike afterwards. */
    static void is(String told, Call made, Call call, long due) {
        PlainGeometry x = new PlainGeometry();
        PlainGeometry twin = new PlainGeometry();
        made.of(x);
        made.of(twin);
        Due.is(told, call.of(x), due);
        String after = state(x);
        Due.is(told + " changes nothing", after.equals(state(twin)));
    }

    /** What an object tells of itself, in few calls, so that its 512 are not used up. */
    static String state(PlainGeometry x) {
        StringBuilder told = new StringBuilder();
        int[] many = new int[4];
        for (int what = 0; what < 4; what++) {
            many[what] = x.count(what);
            told.append(many[what]).append(' ');
        }
        for (int a = 0; a < many[0]; a++) {
            told.append(x.near(a)).append(' ');
        }
        for (int t = 0; t < many[1]; t++) {
            for (int what = many[1] > 50 ? 1 : 0; what < (many[1] > 50 ? 4 : 5); what++) {
                told.append(x.thing(t, what)).append(' ');
            }
        }
        for (int p = 0; p < many[2]; p++) {
            told.append(x.polygonOf(p, 0)).append(' ').append(x.polygonOf(p, 2)).append(' ').append(x.polygonOf(p, 8)).append(' ');
        }
        for (int a = 0; a < many[3]; a++) {
            told.append(x.coefficient(a, 0, 0, 0)).append(' ').append(x.coefficient(a, 1, 0, 0)).append(' ');
            told.append(x.coefficient(a, 0, 1, 0)).append(' ').append(x.coefficient(a, 0, 0, 1)).append(' ');
        }
        return told.toString();
    }
}
