/**
 * Calls told as texts: the name and the numbers, "press 0 1". A flag is 0 or 1, and so is a boolean that is answered;
 * a call that answers nothing answers 0; one that throws answers Index, Argument or State.
 */
final class Calls {
    private interface Answer {
        int give();
    }

    private Calls() {
    }

    static String outcome(Fishclock x, String call) {
        String[] words = call.split(" ");
        int[] n = numbers(words);
        return outcome(() -> make(x, words[0], n));
    }

    static String outcome(PlainQuay y, String call) {
        String[] words = call.split(" ");
        int[] n = numbers(words);
        return outcome(() -> make(y, words[0], n));
    }

    static boolean isRefused(String outcome) {
        return outcome.isEmpty() || Character.isLetter(outcome.charAt(0));
    }

    private static int[] numbers(String[] words) {
        int[] n = new int[words.length - 1];
        for (int i = 0; i < n.length; i++) {
            n[i] = Integer.parseInt(words[i + 1]);
        }
        return n;
    }

    private static String outcome(Answer answer) {
        try {
            return Integer.toString(answer.give());
        } catch (RuntimeException thrown) {
            return nameOf(thrown);
        }
    }

    /** Just the three exceptions that the document names have a short name, the machine's own below them have not. */
    private static String nameOf(RuntimeException thrown) {
        Class<?> of = thrown.getClass();
        if (of == IndexOutOfBoundsException.class) {
            return "Index";
        }
        if (of == IllegalArgumentException.class) {
            return "Argument";
        }
        return of == IllegalStateException.class ? "State" : of.getName();
    }

    private static int flag(boolean is) {
        return is ? 1 : 0;
    }

    private static int make(Fishclock x, String name, int[] n) {
        switch (name) {
            case "quota": return x.quota(n[0], n[1], n[2]);
            case "aid": return x.aid(n[0], n[1], n[2] == 1);
            case "kind": x.kind(n[0], n[1], n[2], n[3]); return 0;
            case "step": return x.step(n[0], n[1]);
            case "buyer": return x.buyer(n[0], n[1], n[2]);
            case "draw": return x.draw(n[0]);
            case "power": return flag(x.power(n[0], n[1] == 1));
            case "line": return flag(x.line(n[0], n[1] == 1));
            case "land": return x.land(n[0], n[1], n[2], n[3], n[4], n[5]);
            case "open": return x.open();
            case "end": return x.end();
            case "press": return x.press(n[0], n[1]);
            case "take": return x.take(n[0], n[1], n[2]);
            case "pass": return x.pass(n[0]);
            case "lorry": return x.lorry(n[0], n[1], n[2]);
            case "pay": return x.pay(n[0], n[1]);
            case "claim": return x.claim(n[0], n[1]);
            case "settle": return x.settle(n[0], n[1], n[2]);
            default: return ask(x, name, n);
        }
    }

    private static int ask(Fishclock x, String name, int[] n) {
        switch (name) {
            case "now": return x.now();
            case "day": return x.day();
            case "isOpen": return flag(x.isOpen());
            case "told": return x.told(n[0], n[1]);
            case "lot": return x.lot(n[0], n[1]);
            case "hall": return x.hall(n[0], n[1]);
            case "account": return x.account(n[0], n[1]);
            case "ship": return x.ship(n[0], n[1]);
            case "kilos": return x.kilos(n[0]);
            case "kilosAnew": return x.kilosAnew(n[0]);
            case "average": return x.average(n[0], n[1]);
            case "loaded": return x.loaded(n[0]);
            default: throw new UnsupportedOperationException(name);
        }
    }

    private static int make(PlainQuay y, String name, int[] n) {
        switch (name) {
            case "quota": return y.quota(n[0], n[1], n[2]);
            case "aid": return y.aid(n[0], n[1], n[2] == 1);
            case "kind": return y.kind(n[0], n[1], n[2], n[3]);
            case "step": return y.step(n[0], n[1]);
            case "buyer": return y.buyer(n[0], n[1], n[2]);
            case "draw": return y.draw(n[0]);
            case "power": return y.power(n[0], n[1] == 1);
            case "line": return y.line(n[0], n[1] == 1);
            case "land": return y.land(n[0], n[1], n[2], n[3], n[4], n[5]);
            case "open": return y.open();
            case "end": return y.end();
            case "press": return y.press(n[0], n[1]);
            case "take": return y.take(n[0], n[1], n[2]);
            case "pass": return y.pass(n[0]);
            case "lorry": return y.lorry(n[0], n[1], n[2]);
            case "pay": return y.pay(n[0], n[1]);
            case "claim": return y.claim(n[0], n[1]);
            case "settle": return y.settle(n[0], n[1], n[2]);
            default: return ask(y, name, n);
        }
    }

    private static int ask(PlainQuay y, String name, int[] n) {
        switch (name) {
            case "now": return y.now();
            case "day": return y.day();
            case "isOpen": return y.isOpen();
            case "told": return y.told(n[0], n[1]);
            case "lot": return y.lot(n[0], n[1]);
            case "hall": return y.hall(n[0], n[1]);
            case "account": return y.account(n[0], n[1]);
            case "ship": return y.ship(n[0], n[1]);
            case "kilos": return y.kilos(n[0]);
            case "kilosAnew": return y.kilos(n[0]);
            case "average": return y.average(n[0], n[1]);
            case "loaded": return y.loaded(n[0]);
            default: throw new UnsupportedOperationException(name);
        }
    }
}
