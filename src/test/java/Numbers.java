import java.util.function.Supplier;

/** Which numbers of pamphlets and quotations a call must take, and which it must refuse. */
final class Numbers {
    interface OfPamphlet {
        void ask(PamphletQuarrel x, int pamphlet);
    }

    interface OfQuotation {
        void ask(PamphletQuarrel x, int pamphlet, int quotation);
    }

    private Numbers() {
    }

    static void pamphlets(OfPamphlet call) {
        takes(call, Stand::rich, 0, 1, 2);
        takes(call, Stand::full, 0, 19);
        takes(call, () -> Stand.many(1), 0);
        refuses(call, Stand::rich, -1, 3, 19, 20, Stand.LOWEST, Stand.HIGHEST);
        refuses(call, Stand::full, -1, 20, 21);
        refuses(call, Stand::empty, -1, 0, 1);
        refuses(call, PamphletQuarrel::new, 0);
        refuses(call, Numbers::withdrawn, 1);
        refuses(call, Numbers::undone, 1);
    }

    private static void takes(OfPamphlet call, Supplier<PamphletQuarrel> made, int... numbers) {
        for (int number : numbers) {
            Check.same("the pamphlet " + number, null,
                    Check.thrownBy(() -> call.ask(made.get(), number)));
        }
    }

    private static void refuses(OfPamphlet call, Supplier<PamphletQuarrel> made, int... numbers) {
        for (int number : numbers) {
            Refused.index(made, x -> call.ask(x, number));
        }
    }

    /** The pamphlet 1 is withdrawn. */
    private static PamphletQuarrel withdrawn() {
        PamphletQuarrel x = Picture.daily("a");
        Picture.print(x, 0, "\"b\"@0 c");
        x.withdraw();
        return x;
    }

    /** The printing of the pamphlet 1 is undone. */
    private static PamphletQuarrel undone() {
        PamphletQuarrel x = Picture.daily("a");
        Picture.print(x, 0, "\"b\"@0 c");
        x.undo();
        return x;
    }

    private static PamphletQuarrel sixteen() {
        return Picture.daily("a", Stand.times("\"x\"@0", 16));
    }

    /** What there is no pamphlet of, has no quotation either. */
    static void quotations(OfQuotation call) {
        takes(call, Stand::rich, 1, 0);
        takes(call, Stand::rich, 2, 0, 1);
        takes(call, Stand::full, 19, 0, 13);
        takes(call, Numbers::sixteen, 1, 0, 15);
        refuses(call, Stand::rich, 2, -1, 2, 3, 16, Stand.LOWEST, Stand.HIGHEST);
        refuses(call, Stand::rich, 1, -1, 1);
        refuses(call, Stand::rich, 0, -1, 0, 1);
        refuses(call, Numbers::sixteen, 1, -1, 16);
        refuses(call, Numbers::withdrawn, 0, 0);
        pamphlets(call);
    }

    private static void pamphlets(OfQuotation call) {
        int[] none = {-1, 3, 19, 20, Stand.LOWEST, Stand.HIGHEST};
        for (int pamphlet : none) {
            refuses(call, Stand::rich, pamphlet, 0);
        }
        refuses(call, Stand::full, 20, 0);
        refuses(call, Stand::empty, 0, 0);
        refuses(call, Numbers::withdrawn, 1, 0);
        refuses(call, Numbers::undone, 1, 0);
    }

    private static void takes(OfQuotation call, Supplier<PamphletQuarrel> made, int pamphlet,
            int... quotations) {
        for (int quotation : quotations) {
            Check.same("the quotation " + quotation + " of the pamphlet " + pamphlet, null,
                    Check.thrownBy(() -> call.ask(made.get(), pamphlet, quotation)));
        }
    }

    private static void refuses(OfQuotation call, Supplier<PamphletQuarrel> made, int pamphlet,
            int... quotations) {
        for (int quotation : quotations) {
            Refused.index(made, x -> call.ask(x, pamphlet, quotation));
        }
    }
}
