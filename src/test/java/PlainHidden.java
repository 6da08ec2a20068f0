import java.util.List;

/** A FORM of KIND 3. */
class PlainHidden extends PlainForm {
    PlainHidden(List<Integer> trace) {
        super(trace);
    }

    @Override
    int kind() {
        return 3;
    }

    @Override
    int meets(int x) {
        trace.add(40);
        return super.meets(x) ^ weighs(x);
    }
}
