/** Calls on one object. */
interface Calls {
    void on(BindingBench x);

    default Calls and(Calls more) {
        return x -> {
            on(x);
            more.on(x);
        };
    }
}
