import java.util.HashSet;
import java.util.Set;

/** What the tests of boundary cases share: each case bears its promise and the words it is about. */
abstract class EdgeSuite {
    static final int NONE = -1, UNKNOWN = -101, OUTSIDE = -102, STATE = -103, FULL = -104;
    static final int MIN = Integer.MIN_VALUE, MAX = Integer.MAX_VALUE;

    interface Call {
        long on(GoingDark x);
    }

    interface Case {
        void look();
    }

    private final Check check = new Check();
    private final Set<String> names = new HashSet<>();
    private final Set<Integer> promises = new HashSet<>();
    private String now = "";

    /** A case that fails, even by an exception, does not keep the others from being looked at. */
    final void edge(int promise, String words, Case test) {
        now = promise + ": " + words;
        check.holds(now + " (a name of its own)", names.add(now));
        promises.add(promise);
        int before = check.seen();
        try {
            test.look();
        } catch (RuntimeException | StackOverflowError e) {
            check.holds(now + " (threw " + e + ")", false);
        }
        check.holds(now + " (looks at something)", check.seen() > before);
    }

    final void due(String call, long got, long want) {
        check.due(now + " | " + call, got, want);
    }

    final void holds(String what, boolean isSo) {
        check.holds(now + " | " + what, isSo);
    }

    /** The call is refused as told, and the object goes on as its twin that never had the call. */
    final void refused(long want, Call call, Scene... scenes) {
        for (Scene scene : scenes) {
            GoingDark x = scene.make();
            due("on " + scene, call.on(x), want);
            isAsTwin(scene, "going on", Scene.goOn(x), Scene.goOn(scene.make()));
            GoingDark y = scene.make();
            call.on(y);
            isAsTwin(scene, "going back", Scene.goBack(y), Scene.goBack(scene.make()));
        }
    }

    final void changesNothing(Call call, Scene... scenes) {
        for (Scene scene : scenes) {
            refused(call.on(scene.make()), call, scene);
            GoingDark x = scene.make();
            due("told again on " + scene, call.on(x), call.on(x));
        }
    }

    private void isAsTwin(Scene scene, String how, long[] got, long[] want) {
        for (int i = 0; i < want.length; i++) {
            due("on " + scene + ", then answer " + i + " of its " + how, got[i], want[i]);
        }
    }

    final void end(int first, int last) {
        for (int promise = first; promise <= last; promise++) {
            check.holds("promise " + promise + " has a case", promises.contains(promise));
        }
        check.end(getClass().getName() + ", " + names.size() + " cases");
    }

    static void write(GoingDark x, String text) {
        for (int i = 0; i < text.length(); i++) {
            x.letter(text.charAt(i));
        }
    }

    static GoingDark at(String text) {
        GoingDark x = new GoingDark();
        write(x, text);
        x.strait();
        return x;
    }

    static void breaths(GoingDark x, int many) {
        for (int i = 0; i < many; i++) {
            x.breath();
        }
    }
}
