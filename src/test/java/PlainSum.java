import java.util.List;

/** A FORM of KIND 1. */
class PlainSum extends PlainForm {
    PlainSum(List<Integer> trace) {
        super(trace);
    }

    @Override
    int kind() {
        return 1;
    }

    @Override
    int lies(int x) {
        trace.add(20);
        return super.lies(x) ^ 7;
    }

    @Override
    int meets(int x) {
        trace.add(21);
        return super.meets(x) + lies(0);
    }
}
