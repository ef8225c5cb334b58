import java.util.ArrayList;
import java.util.List;

/**
 * A run of calls on a new object, written out as a text: "lay(1, 0) = 0; draw() = 10; draw() = STATE".
 * Behind the = stands what is due: an answer, a set of KINDS as {0 3}, or STATE, ARGUMENT or INDEX for
 * the exception; a call without an = must be answered. What throws must change nothing.
 *
 * Besides the calls of the class there are turns(n): n times who has the TURN draws, discards that
 * TILE, and all pass; points(a, b, c, d): POINTS of the four; and onlyPhase(n): it is PHASE n, and
 * whatever belongs to the others alone is refused.
 */
final class Run {
    // what an object answers behind its 512th call is free
    private static final int MOST_CALLS = 512;
    private static final int CALLS_AT_ONCE = 100;
    private static final int REFUSED_AT_ONCE = 8;
    private static final List<String> REFUSALS = List.of("STATE", "ARGUMENT", "INDEX");

    private static int checks = 0;
    private static int wrong = 0;

    private final String sentence;
    private final List<String> told = new ArrayList<>();
    private final List<String> answers = new ArrayList<>();
    private final Counted object = new Counted();
    private boolean broken = false;

    private Run(String sentence) {
        this.sentence = sentence;
    }

    /** Plays a run, the texts of which follow each other, that shows a sentence of the document. */
    static void holds(String sentence, String... texts) {
        play(sentence, texts);
    }

    /** Plays a run, and once more with calls in between that are refused: that must change nothing. */
    static void holdsUndisturbed(String sentence, String... texts) {
        Run run = play(sentence, texts);
        List<List<String>> refused = new ArrayList<>();
        int rounds = 1;
        for (int i = 0; i < run.told.size(); i++) {
            refused.add(refusedBehind(run.told.subList(0, i)));
            rounds = Math.max(rounds, (refused.get(i).size() + REFUSED_AT_ONCE - 1) / REFUSED_AT_ONCE);
        }
        for (int round = 0; round < rounds; round++) {
            run.playDisturbed(refused, round);
        }
    }

    static void is(String what, Object got, Object due) {
        checks++;
        if (!due.equals(got)) {
            wrong++;
            System.out.println(what + " answered " + got + ", due is " + due);
        }
    }

    static void end() {
        System.out.println(wrong == 0 ? checks + " checks are as due" : wrong + " of " + checks + " checks are not as due");
        if (wrong != 0) {
            System.exit(1);
        }
    }

    // ---- playing a run

    private static Run play(String sentence, String... texts) {
        Run run = new Run(sentence);
        for (String text : texts) {
            for (String step : text.split(";")) {
                if (!step.isBlank() && !run.broken) {
                    run.step(step.trim());
                }
            }
        }
        return run;
    }

    private void step(String step) {
        int at = step.indexOf('=');
        String call = (at < 0 ? step : step.substring(0, at)).trim();
        String due = at < 0 ? null : step.substring(at + 1).trim();
        int[] numbers = numbersOf(call);
        switch (nameOf(call)) {
            case "turns" -> turns(numbers[0]);
            case "points" -> points(numbers);
            case "onlyPhase" -> onlyPhase(numbers[0]);
            default -> check(call, due);
        }
    }

    private void turns(int many) {
        for (int i = 0; i < many && !broken; i++) {
            check("draw()", null);
            check("discard(" + latest() + ")", null);
            check("pass()", null);
        }
    }

    private void points(int[] due) {
        for (int p = 0; p < due.length; p++) {
            check("ofPlayer(" + p + ", 0)", String.valueOf(due[p]));
        }
    }

    private void check(String call, String due) {
        List<String> before = List.copyOf(told);
        told.add(call);
        answers.add(object.ask(call));
        String got = latest();
        if (due == null) {
            broken = REFUSALS.contains(got);
            is(where(call) + " is refused", broken, false);
        } else {
            is(where(call), got, due);
        }
        if (REFUSALS.contains(got)) {
            is(where(call) + ", all that can be asked behind it", everything(behind(told)), everything(behind(before)));
        }
    }

    private String latest() {
        return answers.get(answers.size() - 1);
    }

    private String where(String call) {
        return sentence + "\n    " + String.join("; ", told) + "\n    " + call;
    }

    // ---- what the PHASES rule out

    private void onlyPhase(int phase) {
        check("many(0)", String.valueOf(phase));
        check("many(1)", null);
        List<String> calls = ruledOutIn(phase, latest());
        for (int from = 0; from < calls.size(); from += CALLS_AT_ONCE) {
            Counted asked = behind(told);
            for (String call : calls.subList(from, Math.min(from + CALLS_AT_ONCE, calls.size()))) {
                is(where(call), asked.ask(call), "STATE");
            }
            is(where("what is refused in PHASE " + phase) + " changes nothing", everything(asked), everything(behind(told)));
        }
    }

    private static List<String> ruledOutIn(int phase, String turn) {
        List<String> calls = new ArrayList<>();
        if (phase != 3) {
            calls.add("lay(1, 0)");
        }
        if (phase != 0) {
            calls.add("draw()");
        }
        for (int kind = 0; kind < 25 && phase != 1; kind++) {
            calls.add("discard(" + kind + ")");
            calls.add("call(" + kind + ")");
            calls.add("four(" + kind + ")");
        }
        if (phase != 2) {
            calls.add("pass()");
        }
        for (int p = 0; p < 4; p++) {
            for (int low = 0; low < 25 && phase != 2; low++) {
                calls.add("claim(" + p + ", 1, " + low + ")");
            }
            if (phase != 2) {
                calls.add("claim(" + p + ", 0, 0)");
                calls.add("claim(" + p + ", 2, 0)");
            }
            boolean inTurn = turn.equals(String.valueOf(p));
            if (phase == 0 || phase == 3 || phase == 1 && !inTurn || phase == 2 && inTurn) {
                calls.add("win(" + p + ")");
            }
        }
        return calls;
    }

    // ---- what is refused between the calls of a run

    private void playDisturbed(List<List<String>> refused, int round) {
        Counted disturbed = new Counted();
        for (int i = 0; i < told.size(); i++) {
            List<String> all = refused.get(i);
            for (int j = 0; j < REFUSED_AT_ONCE && j < all.size(); j++) {
                String call = all.get((round * REFUSED_AT_ONCE + j) % all.size());
                is(sentence + ": " + call + " is refused", REFUSALS.contains(disturbed.ask(call)), true);
            }
            is(where(told.get(i)) + " behind what was refused", disturbed.ask(told.get(i)), answers.get(i));
        }
        is(where("all that can be asked") + " behind what was refused", everything(disturbed), everything(behind(told)));
    }

    private static List<String> refusedBehind(List<String> calls) {
        List<String> refused = new ArrayList<>();
        Counted asked = behind(calls);
        for (String call : WHAT_MAY_BE_REFUSED) {
            if (REFUSALS.contains(asked.ask(call))) {
                refused.add(call);
            } else {
                asked = behind(calls);
            }
        }
        return refused;
    }

    private static final List<String> WHAT_MAY_BE_REFUSED = whatMayBeRefused();

    private static List<String> whatMayBeRefused() {
        List<String> calls = new ArrayList<>(List.of("lay(7, 31)", "lay(2, 0)", "lay(3, 100)", "draw()", "pass()",
            "ofPlayer(0, 10)", "ofSet(0, 3)", "river(0, 48)", "waits(4)", "seen(25)", "hand(-1)", "many(10)",
            "lead(4)", "worth(0, 25)", "isSafe(-1, 0)", "outs(4)", "has(0, -1)"));
        for (int kind = -1; kind <= 25; kind += 2) {
            calls.add("discard(" + kind + ")");
            calls.add("call(" + kind + ")");
            calls.add("four(" + kind + ")");
        }
        for (int p = -1; p <= 4; p++) {
            calls.add("win(" + p + ")");
            for (int what = -1; what <= 3; what++) {
                calls.add("claim(" + p + ", " + what + ", 9)");
            }
        }
        return calls;
    }

    // ---- asking an object

    private static Counted behind(List<String> calls) {
        Counted object = new Counted();
        for (String call : calls) {
            object.ask(call);
        }
        return object;
    }

    /** All that the calls which change nothing answer. */
    private static String everything(Counted object) {
        StringBuilder all = new StringBuilder(object.ask("digest()"));
        for (int p = 0; p < 4; p++) {
            all.append(' ').append(object.ask("hand(" + p + ")")).append(' ').append(object.ask("outs(" + p + ")"));
        }
        for (int kind = 0; kind < 25; kind++) {
            all.append(' ').append(object.ask("seen(" + kind + ")"));
            for (int p = 0; p < 4; p++) {
                all.append(' ').append(object.ask("worth(" + p + ", " + kind + ")"));
                all.append(' ').append(object.ask("isSafe(" + p + ", " + kind + ")"));
            }
        }
        return all.toString();
    }

    private static String nameOf(String call) {
        return call.substring(0, call.indexOf('('));
    }

    private static int[] numbersOf(String call) {
        String inside = call.substring(call.indexOf('(') + 1, call.length() - 1);
        String[] texts = inside.isBlank() ? new String[0] : inside.split(",");
        int[] numbers = new int[texts.length];
        for (int i = 0; i < texts.length; i++) {
            numbers[i] = Integer.parseInt(texts[i].trim());
        }
        return numbers;
    }

    /** An object that is never asked more often than the document promises answers. */
    private static final class Counted {
        private final Windsparlour w = new Windsparlour();
        private int calls = 0;

        String ask(String call) {
            calls++;
            if (calls > MOST_CALLS) {
                is("the number of calls of one object", calls, MOST_CALLS);
            }
            int[] numbers = numbersOf(call);
            try {
                return String.valueOf(answer(nameOf(call), numbers));
            } catch (RuntimeException e) {
                return refusal(e);
            }
        }

        private static String refusal(RuntimeException e) {
            return e.getClass() == IllegalStateException.class ? "STATE"
                : e.getClass() == IllegalArgumentException.class ? "ARGUMENT"
                : e.getClass() == IndexOutOfBoundsException.class ? "INDEX" : e.toString();
        }

        private Object answer(String name, int[] n) {
            return switch (name) {
                case "lay" -> w.lay(n[0], n[1]);
                case "draw" -> w.draw();
                case "discard" -> w.discard(n[0]);
                case "call" -> w.call(n[0]);
                case "claim" -> w.claim(n[0], n[1], n[2]);
                case "four" -> w.four(n[0]);
                case "pass" -> w.pass();
                case "win" -> w.win(n[0]);
                case "has" -> w.has(n[0], n[1]);
                case "ofPlayer" -> w.ofPlayer(n[0], n[1]);
                case "ofSet" -> w.ofSet(n[0], n[1]);
                case "river" -> w.river(n[0], n[1]);
                case "waits" -> kinds(w.waits(n[0]));
                case "seen" -> w.seen(n[0]);
                case "hand" -> w.hand(n[0]);
                case "many" -> w.many(n[0]);
                case "lead" -> w.lead(n[0]);
                case "worth" -> w.worth(n[0], n[1]);
                case "best" -> w.best();
                case "isSafe" -> w.isSafe(n[0], n[1]);
                case "outs" -> w.outs(n[0]);
                case "digest" -> w.digest();
                default -> "no such call";
            };
        }

        private static String kinds(long set) {
            StringBuilder text = new StringBuilder("{");
            for (int k = 0; k < 64; k++) {
                if ((set >> k & 1) == 1) {
                    text.append(text.length() > 1 ? " " : "").append(k);
                }
            }
            return text.append('}').toString();
        }
    }
}
