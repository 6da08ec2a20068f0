import java.util.List;

/** A FORM of KIND 2. */
class PlainPower extends PlainSum {
    PlainPower(List<Integer> trace) {
        super(trace);
    }

    @Override
    int kind() {
        return 2;
    }

    @Override
    int weighs(int x) {
        trace.add(30);
        return super.weighs(x - 1);
    }

    @Override
    int lies(int x) {
        trace.add(31);
        return super.lies(x) * 2;
    }
}
