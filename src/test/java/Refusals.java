import java.util.ArrayList;
import java.util.List;

/** Calls that are refused in one state: each answers what is due, and all of them together change nothing. */
final class Refusals {

    private final String where;
    private final Scenes.Making scene;
    private final List<Outlook.Ask> asks = new ArrayList<>();

    private Refusals(String where, Scenes.Making scene) {
        this.where = where;
        this.scene = scene;
    }

    static Refusals in(String where, Scenes.Making scene) {
        return new Refusals(where, scene);
    }

    Refusals none(String what, Outlook.Ask ask) {
        return due(what, ask, "-1");
    }

    Refusals no(String what, Outlook.Ask ask) {
        return due(what, ask, "false");
    }

    /** The very class is due: the machine's ArrayIndexOutOfBoundsException is another one. */
    Refusals noIndex(String what, Outlook.Ask ask) {
        return due(what, ask, "IndexOutOfBoundsException");
    }

    Refusals noArgument(String what, Outlook.Ask ask) {
        return due(what, ask, "IllegalArgumentException");
    }

    private Refusals due(String what, Outlook.Ask ask, String due) {
        Check.text(where + ": " + what, Outlook.answer(scene.make(), ask), due);
        asks.add(ask);
        return this;
    }

    private SheetTrees withRefusals() {
        SheetTrees x = scene.make();
        for (Outlook.Ask ask : asks) {
            Outlook.answer(x, ask);
        }
        return x;
    }

    void changeNothing() {
        List<String> before = Outlook.of(scene);
        List<String> behind = Outlook.of(this::withRefusals);
        Check.same(where + ": lines behind refused calls", behind.size(), before.size());
        for (int n = 0; n < before.size() && n < behind.size(); n++) {
            Check.text(where + ": behind refused calls", behind.get(n), before.get(n));
        }
    }
}
