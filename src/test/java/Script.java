/**
 * Calls written as a text, one behind the other: "addPilot 1, 2*pass 48, !serve 0, text w1;s0".
 * A number and a star repeat a call, "!" tells that it throws, "text" feeds each character.
 */
final class Script {
    private Script() {
    }

    /** Makes all calls; a call that throws without "!", or does not with it, ends the test. */
    static void run(Answering x, String calls) {
        for (String call : calls.split(", ")) {
            if (!call.isEmpty()) {
                repeat(x, call);
            }
        }
    }

    private static void repeat(Answering x, String call) {
        int star = call.indexOf('*');
        boolean isRepeated = star > 0 && call.charAt(0) >= '0' && call.charAt(0) <= '9';
        int times = isRepeated ? Integer.parseInt(call.substring(0, star)) : 1;
        for (int k = 0; k < times; k++) {
            runOne(x, isRepeated ? call.substring(star + 1) : call);
        }
    }

    private static void runOne(Answering x, String call) {
        if (call.startsWith("text ")) {
            for (int k = 5; k < call.length(); k++) {
                x.call("feed", call.charAt(k));
            }
            return;
        }
        boolean isThrowing = call.startsWith("!");
        Object answer = answer(x, isThrowing ? call.substring(1) : call);
        if (answer instanceof Class != isThrowing) {
            throw new AssertionError(call + " ahead of a test answered " + answer);
        }
    }

    /** Makes one call: "plan 0 1 5"; "min" and "max" are the least and the most number. */
    static Object answer(Answering x, String call) {
        String[] parts = call.split(" ");
        int[] a = new int[parts.length - 1];
        for (int k = 0; k < a.length; k++) {
            a[k] = number(parts[k + 1]);
        }
        return x.call(parts[0], a);
    }

    private static int number(String text) {
        switch (text) {
            case "min": return Integer.MIN_VALUE;
            case "max": return Integer.MAX_VALUE;
            default: return Integer.parseInt(text);
        }
    }
}
