/**
 * An object that is made anew, by the same calls, before it has been used for 512 calls: for long rows of questions
 * that change nothing.
 */
final class Remade {
    // The calls of the longest recipe and these are less than 512 together.
    private static final int QUESTIONS = 300;
    private final Twins.Recipe recipe;
    private CornerCurves x;
    private int left;

    Remade(Twins.Recipe recipe) {
        this.recipe = recipe;
    }

    long ask(Twins.Call call) {
        if (left == 0) {
            x = recipe.make();
            left = QUESTIONS;
        }
        left--;
        return call.on(x);
    }
}
