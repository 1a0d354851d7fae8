/** Counts the answers that are not as due, and tells of each. */
final class Check {
    interface Call {
        Object answer();
    }

    interface Order {
        void give();
    }

    static final Class<? extends RuntimeException> INDEX = IndexOutOfBoundsException.class;
    static final Class<? extends RuntimeException> ARGUMENT = IllegalArgumentException.class;
    static final Class<? extends RuntimeException> STATE = IllegalStateException.class;

    private static int wrong = 0;
    private static String topic = "";

    private Check() {
    }

    static void promise(int number, String name) {
        about("promise " + number + ", " + name);
    }

    static void about(String what) {
        topic = what;
    }

    static void due(String call, Object answer, Object want) {
        if (!want.equals(answer)) {
            report(call + " answered " + answer + ", due is " + want);
        }
    }

    static void refused(String call, Class<? extends RuntimeException> want, Call made) {
        try {
            report(call + " answered " + made.answer() + ", due is " + want.getName());
        } catch (RuntimeException thrown) {
            if (thrown.getClass() != want) {
                report(call + " threw " + thrown.getClass().getName() + ", due is " + want.getName());
            }
        }
    }

    static void refusedOrder(String call, Class<? extends RuntimeException> want, Order order) {
        refused(call, want, () -> {
            order.give();
            return "nothing";
        });
    }

    static void report(String text) {
        wrong++;
        if (wrong <= 50) {
            System.out.println(topic + ": " + text);
        }
    }

    static void end() {
        if (wrong > 0) {
            System.out.println(wrong + " answers are not as due");
            System.exit(1);
        }
    }
}
