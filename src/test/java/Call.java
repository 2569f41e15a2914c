import java.util.Arrays;

/** One call with its arguments, which can be made on any object; a boolean's answer counts 1 or 0. */
record Call(String name, int... with) {
    int on(CodeVerifier v) {
        return switch (name) {
            case "kind" -> v.kind(with[0]);
            case "field" -> v.field(with[0], with[1]);
            case "method" -> v.method(with[0], with[1], with[2], with[3]);
            case "parameter" -> v.parameter(with[0], with[1]);
            case "slot" -> v.slot(with[0], with[1]) ? 1 : 0;
            case "op" -> v.op(with[0], with[1], with[2], with[3]);
            case "handler" -> v.handler(with[0], with[1], with[2], with[3], with[4]);
            case "verify" -> v.verify(with[0]);
            case "stands" -> v.stands(with[0], with[1], with[2], with[3]);
            case "looked" -> v.looked();
            default -> throw new IllegalStateException(name);
        };
    }

    @Override
    public String toString() {
        String all = Arrays.toString(with);
        return name + "(" + all.substring(1, all.length() - 1) + ")";
    }
}
