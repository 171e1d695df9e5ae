import java.util.Random;

/** Long runs of calls, drawn from a fixed seed, on the program and on the model. */
public final class ModelTest {
    private static final int RUNS = 400;
    private static final int MOST_CALLS = 512;
    private static final int CALLS_OF_A_STEP = 2;
    private static final int[] WILD = {
        Integer.MIN_VALUE, Integer.MAX_VALUE, -1000, -2, -1, 0, 7, 8, 11, 12, 32, 63, 64, 255, 256
    };
    private static final Check check = new Check();

    private final Random random;
    private final PassedDuties real = new PassedDuties();
    private final Model model = new Model();
    private final int signs;
    private final int kinds;
    private final int many;
    private final int sparse;
    private int made = 0;

    private ModelTest(int run) {
        random = new Random(1697L * run);
        signs = random.nextInt(4);
        kinds = random.nextInt(4);
        many = 1 + random.nextInt(random.nextInt(3) == 0 ? 12 : 3);
        sparse = random.nextInt(8);
    }

    public static void main(String[] args) {
        for (int run = 0; run < RUNS && check.clean(); run++) {
            new ModelTest(run).run(run);
        }
        check.end();
    }

    private void run(int run) {
        int texts = random.nextInt(9);
        for (int text = 0; text < texts; text++) {
            readGoodText("run " + run + ", text " + text + ": ");
        }
        int asksOfWays = run % 3 == 0 ? 8 * 12 * 2 : 0;
        while (made + CALLS_OF_A_STEP + asksOfWays < MOST_CALLS && check.clean()) {
            step("run " + run + ", call " + made + ": ");
        }
        due("run " + run + ": digest", real.digest(), model.digest());
        if (asksOfWays > 0) {
            allWays("run " + run + ": ");
        }
        check.holds("run " + run + ": no more calls than are promised", made <= MOST_CALLS);
    }

    private void due(String call, long got, long want) {
        made++;
        check.due(call, got, want);
    }

    private void allWays(String where) {
        for (int part = 0; part < 8; part++) {
            for (int item = 0; item < 12; item++) {
                for (int place = 1; place < 3; place++) {
                    String call = where + "way " + part + " " + item + " " + place;
                    due(call, real.way(part, item, place), model.way(part, item, place));
                }
            }
        }
    }

    private void readGoodText(String where) {
        String letters = "pqrPQRstuSTU".substring(0, 4 + random.nextInt(9));
        int items = 1 + random.nextInt(many);
        for (int item = 0; item < items && !letters.isEmpty(); item++) {
            int place = random.nextInt(letters.length());
            both(where, letters.charAt(place));
            letters = letters.substring(0, place) + letters.substring(place + 1);
            if (random.nextInt(4) < signs) {
                both(where, "+**".charAt(random.nextInt(3)));
            }
        }
        due(where + "terms", real.terms(), model.terms());
        due(where + "blank", real.blank(), model.blank());
    }

    private void both(String where, int code) {
        due(where + "letter " + code, real.letter(code), model.letter(code));
    }

    private void step(String where) {
        int draw = random.nextInt(100);
        if (draw < 25) {
            write(where);
        } else if (draw < 55) {
            change(where, draw);
        } else {
            ask(where, draw);
        }
    }

    private void write(String where) {
        int draw = random.nextInt(20);
        if (draw < 13) {
            both(where, code());
        } else if (draw == 13 && random.nextInt(3) == 0) {
            due(where + "blank", real.blank(), model.blank());
        } else if (draw < 17) {
            due(where + "fault", real.fault(), model.fault());
        } else if (random.nextInt(3) == 0) {
            due(where + "terms", real.terms(), model.terms());
            due(where + "blank", real.blank(), model.blank());
        }
    }

    private int code() {
        int draw = random.nextInt(60);
        if (draw == 0) {
            return wild();
        }
        if (draw == 1) {
            return 32 + random.nextInt(95);
        }
        if (draw < 6 + 6 * signs) {
            return "+*".charAt(random.nextInt(2));
        }
        return "pqrstuPQRSTU".charAt(random.nextInt(12));
    }

    private void change(String where, int draw) {
        int a = number();
        int b = number();
        if (draw < 31) {
            due(where + "part " + a, real.part(a), model.part(a));
        } else if (draw < 34) {
            due(where + "give " + a + " " + b, real.give(a, b), model.give(a, b));
        } else if (draw == 34) {
            due(where + "leave " + a, real.leave(a), model.leave(a));
        } else {
            int kind = random.nextInt(15) == 0 ? wild() : random.nextInt(kinds + 2) - 1;
            if (random.nextInt(8) < sparse) {
                kind = -1;
            }
            String call = where + "join " + a + " " + b + " " + kind;
            due(call, real.join(a, b, kind), model.join(a, b, kind));
        }
    }

    private void ask(String where, int draw) {
        int a = number();
        int b = number();
        int c = random.nextInt(13) == 0 ? wild() : random.nextInt(13);
        String call = where + draw + " " + a + " " + b + " " + c;
        switch (draw % 15) {
            case 0: due(call, real.reach(a, c), model.reach(a, c)); break;
            case 1: due(call, real.two(a, b, c % 4), model.two(a, b, c % 4)); break;
            case 2: due(call, real.kind(a, b), model.kind(a, b)); break;
            case 3: case 4: due(call, real.of(a, b), model.of(a, b)); break;
            case 5: case 6: due(call, real.held(a, c), model.held(a, c)); break;
            case 7: case 8: case 9: due(call, real.way(a, c, b), model.way(a, c, b)); break;
            case 10: due(call, real.clash(c), model.clash(c)); break;
            case 11: case 12: due(call, real.cause(a, b), model.cause(a, b)); break;
            case 13: due(call, real.cure(), model.cure()); break;
            default: due(call, real.count(b), model.count(b)); break;
        }
        if (random.nextInt(40) == 0) {
            due(where + "digest", real.digest(), model.digest());
        }
    }

    /** Of a part, terms, an act or a place: mostly one that is there. */
    private int number() {
        int draw = random.nextInt(40);
        if (draw == 0) {
            return wild();
        }
        int there = draw < 20 ? model.count(1) : model.count(2);
        return random.nextInt(there + 1);
    }

    private int wild() {
        return WILD[random.nextInt(WILD.length)];
    }
}
