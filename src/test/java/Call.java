/** One call of the face with its arguments, for the class and for the plain Model alike. */
record Call(String name, int... args) {

    int on(SpaceWords x) {
        int[] n = args;
        return switch (name) {
            case "turned" -> x.turned(n[0]);
            case "composed" -> x.composed(n[0], n[1]);
            case "near" -> x.near(n[0], n[1]);
            case "steps" -> x.steps(n[0], n[1]);
            case "tell" -> x.tell(n[0], n[1], n[2], n[3]);
            case "silent" -> x.silent(n[0], n[1] != 0);
            case "statement" -> x.statement(n[0], n[1]);
            case "told" -> x.told(n[0], n[1], n[2]);
            case "closed" -> x.closed(n[0], n[1], n[2]);
            case "canBe" -> x.canBe(n[0]);
            case "can" -> x.can(n[0], n[1], n[2]);
            case "drawing" -> x.drawing(n[0], n[1], n[2]);
            case "drawn" -> x.drawn(n[0], n[1], n[2]);
            case "core" -> x.core(n[0]);
            case "word" -> x.word(n[0], n[1], n[2]);
            case "say" -> x.say(n[0], n[1], n[2]);
            case "ask" -> x.ask(n[0], n[1], n[2]);
            case "box" -> x.box(n[0], n[1], n[2], n[3], n[4]);
            case "rub" -> x.rub(n[0]);
            case "read" -> x.read(n[0], n[1], n[2]);
            case "holds" -> x.holds(n[0], n[1], n[2]);
            case "fits" -> x.fits();
            case "moved" -> x.moved(n[0], n[1], n[2]);
            case "count" -> x.count(n[0]);
            default -> throw new IllegalStateException(name);
        };
    }

    int on(Model m) {
        int[] n = args;
        return switch (name) {
            case "turned" -> m.turned(n[0]);
            case "composed" -> m.composed(n[0], n[1]);
            case "near" -> m.near(n[0], n[1]);
            case "steps" -> m.steps(n[0], n[1]);
            case "tell" -> m.tell(n[0], n[1], n[2], n[3]);
            case "silent" -> m.silent(n[0], n[1] != 0);
            case "statement" -> m.statement(n[0], n[1]);
            case "told" -> m.told(n[0], n[1], n[2]);
            case "closed" -> m.closed(n[0], n[1], n[2]);
            case "canBe" -> m.canBe(n[0]);
            case "can" -> m.can(n[0], n[1], n[2]);
            case "drawing" -> m.drawing(n[0], n[1], n[2]);
            case "drawn" -> m.drawn(n[0], n[1], n[2]);
            case "core" -> m.core(n[0]);
            case "word" -> m.word(n[0], n[1], n[2]);
            case "say" -> m.say(n[0], n[1], n[2]);
            case "ask" -> m.ask(n[0], n[1], n[2]);
            case "box" -> m.box(n[0], n[1], n[2], n[3], n[4]);
            case "rub" -> m.rub(n[0]);
            case "read" -> m.read(n[0], n[1], n[2]);
            case "holds" -> m.holds(n[0], n[1], n[2]);
            case "fits" -> m.fits();
            case "moved" -> m.moved(n[0], n[1], n[2]);
            case "count" -> m.count(n[0]);
            default -> throw new IllegalStateException(name);
        };
    }

    String text() {
        StringBuilder text = new StringBuilder(name).append('(');
        for (int i = 0; i < args.length; i++) {
            text.append(i == 0 ? "" : ", ").append(args[i]);
        }
        return text.append(')').toString();
    }
}
