/** Makes a tree by draws. */
final class TwinGrowing extends TwinMaker {
    private final Draws draws;
    private int fuel;

    TwinGrowing(TwinLanguage language, long x, int fuel) {
        super(language);
        this.draws = new Draws(x);
        this.fuel = fuel;
    }

    TwinTree grow() {
        return use(language.rules.get(0).name());
    }

    @Override
    void uses() {
        fuel--;
    }

    @Override
    int which(TwinLanguage.Form form) {
        if (fuel >= 0) {
            return draws.below(form.alternatives.size());
        }
        int least = 0;
        for (int k = 1; k < form.alternatives.size(); k++) {
            if (language.height(form.alternatives.get(k)) < language.height(form.alternatives.get(least))) {
                least = k;
            }
        }
        return least;
    }

    @Override
    int ahead(TwinLanguage.Unit unit) {
        return fuel < 0 ? 0 : draws.below(unit.repeat.equals("*") ? 3 : 2);
    }

    @Override
    boolean goesOn(TwinLanguage.Unit unit, TwinTree node, int times) {
        return times < node.value;
    }

    @Override
    int value(TwinLanguage.Unit unit) {
        if (unit.token.text().equals("number")) {
            return draws.below(10000);
        }
        String name = draws.name();
        while (language.literals.contains("\"" + name + "\"")) {
            name += "z";
        }
        return (int) Desk.letters(name);
    }

    @Override
    void literal(TwinLanguage.Unit unit) {
    }

    @Override
    void passes() {
    }
}
