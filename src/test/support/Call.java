import java.util.function.ToIntFunction;

/** One call with its arguments: as it is written, as it is made on the object, and on the model. */
record Call(String text, ToIntFunction<NumberContents> made, ToIntFunction<Model> meant) {
    String answerOf(NumberContents x) {
        return answer(made, x);
    }

    String answerOf(Model x) {
        return answer(meant, x);
    }

    private static <T> String answer(ToIntFunction<T> call, T on) {
        try {
            return Integer.toString(call.applyAsInt(on));
        } catch (RuntimeException e) {
            return "throws." + e.getClass().getSimpleName();
        }
    }

    @Override
    public String toString() {
        return text;
    }
}
