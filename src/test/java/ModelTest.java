import java.util.Random;

/** Asks a BlackMill and a PlainMill the same, at random (always the same), and compares their answers. */
public final class ModelTest {
    private static final int RUNS = 600;
    private static final int CALLS = 300;
    private static final Check CHECK = new Check("ModelTest");

    private final Random random;
    private final BlackMill mill = new BlackMill();
    private final PlainMill plain = new PlainMill();

    private ModelTest(long seed) {
        random = new Random(seed);
    }

    public static void main(String[] args) {
        for (int run = 0; run < RUNS; run++) {
            new ModelTest(run).run(run);
        }
        CHECK.end();
    }

    private void run(int run) {
        for (int i = 0; i < CALLS; i++) {
            call("run " + run + ", call " + i + " ");
        }
    }

    private int below(int n) {
        return random.nextInt(n);
    }

    /** Most often one that fits, now and then one just beyond, seldom one far off. */
    private int near(int least, int most) {
        int dice = below(40);
        if (dice == 0) {
            return random.nextInt();
        }
        return dice < 4 ? least - 1 + below(2) * (most - least + 2) : least + below(most - least + 1);
    }

    private int lad() {
        return near(0, Math.max(1, mill.count(0) - 1));
    }

    private void due(String what, long got, long want) {
        CHECK.due(what, got, want);
    }

    private void due(String what, boolean got, boolean want) {
        CHECK.due(what, got, want);
    }

    private void call(String at) {
        int dice = below(100);
        if (mill.count(0) == 0 && dice < 50 || dice < 2) {
            tell(at, 0, millText());
        } else if (dice < 5) {
            tell(at, 1, lawText());
        } else if (dice < 45) {
            act(at);
        } else if (dice < 75) {
            ask(at);
        } else {
            askMore(at);
        }
        if (below(10) == 0) {
            seen(at);
        }
    }

    private void seen(String at) {
        for (int i = -1; i < 15; i++) {
            due(at + "count " + i, mill.count(i), plain.count(i));
        }
        for (int i = -1; i <= mill.count(0); i++) {
            for (int what = -1; what < 10; what++) {
                due(at + "lad " + i + " " + what, Mill.lad(mill, i, what), plain.lad(i, what));
            }
        }
        for (int i = -1; i < 6; i++) {
            due(at + "status " + i, mill.status(i), plain.status(i));
            due(at + "master " + i, mill.master(i), plain.master(i));
            due(at + "way " + i, mill.way(i, i % 3), plain.way(i, i % 3));
        }
    }

    // ---- texts ----

    private void tell(String at, int sort, String text) {
        due(at + "end", mill.end(0), plain.end(0));
        for (int i = 0; i < text.length(); i += 5) {
            int[] words = new int[5];
            for (int k = 0; k < 5; k++) {
                words[k] = i + k < text.length() ? text.charAt(i + k) << 8 * below(4) : 0;
            }
            due(at + "feed", mill.feed(words[0], words[1], words[2], words[3], words[4]),
                plain.feed(words[0], words[1], words[2], words[3], words[4]));
        }
        if (below(5) == 0) {
            int n = near(0, mill.count(3));
            due(at + "end " + n, mill.end(n), plain.end(n));
        }
        for (int any = -1; any < 3; any++) {
            due(at + "fault " + any + " of " + text, mill.fault(any), plain.fault(any));
        }
        due(at + "text " + text, mill.text(sort), plain.text(sort));
        if (below(3) > 0) {
            int law = near(-1, 3);
            due(at + "law " + law, mill.law(law), plain.law(law));
        }
    }

    private String blank() {
        return below(12) == 0 ? " " : "";
    }

    private String millText() {
        StringBuilder text = new StringBuilder();
        int lads = 2 + below(7);
        int ways = below(8);
        boolean master = below(2) == 0;
        while (lads + ways > 0 || master) {
            int which = below(lads + ways + 1);
            text.append(text.length() > 0 ? ";" : "").append(blank());
            if (which < lads) {
                lads--;
                text.append('l').append(items("askfo", new int[] {40, 12, 4, 9, 30}));
            } else if (which < lads + ways) {
                ways--;
                text.append('w').append(items("abh", new int[] {6, 6, 9}));
            } else if (master) {
                master = false;
                text.append('s').append(items("plhy", new int[] {99, 9, 20, 9}));
            } else {
                text.setLength(Math.max(0, text.length() - 1));
                master = text.length() == 0;
            }
        }
        return spoilt(text.toString());
    }

    private String items(String letters, int[] bounds) {
        StringBuilder text = new StringBuilder();
        int from = below(letters.length());
        for (int i = 0; i < letters.length(); i++) {
            int which = (from + i) % letters.length();
            if (below(2) == 0) {
                int least = letters.equals("askfo") && which == 4 ? 10 : letters.charAt(which) == 'a' ? 12 * (letters.length() / 5) : 0;
                text.append(blank()).append(letters.charAt(which)).append(blank());
                text.append(least + below(bounds[which])).append(blank());
            }
        }
        return text.toString();
    }

    private String spoilt(String text) {
        int dice = below(10);
        if (text.isEmpty() || dice > 1) {
            return text;
        }
        String signs = "slwakfoyhbp;; 0123456789:?!([])=<>&|+-*/n\u00e9";
        int i = below(text.length());
        String sign = Character.toString(signs.charAt(below(signs.length())));
        return text.substring(0, i) + sign + text.substring(dice == 0 ? i : i + 1);
    }

    private String lawText() {
        StringBuilder text = new StringBuilder();
        int clauses = 1 + below(4);
        for (int i = 0; i < clauses; i++) {
            text.append(i > 0 ? ";" : "").append(blank()).append('y').append(blank()).append(':');
            if (below(3) > 0) {
                text.append(condition(below(4))).append('?');
            }
            text.append(sum(below(4)));
        }
        return spoilt(text.length() < 230 ? text.toString() : "y:s/3");
    }

    private String condition(int depth) {
        int dice = below(depth > 0 ? 6 : 1);
        switch (dice) {
            case 1: return condition(depth - 1) + "|" + condition(depth - 1);
            case 2: return condition(depth - 1) + blank() + "&" + condition(depth - 1);
            case 3: return blank() + "!" + (below(2) == 0 ? "(" + condition(depth - 1) + ")" : relation(depth - 1));
            case 4: return "(" + condition(depth - 1) + blank() + ")";
            default: return relation(depth);
        }
    }

    private String relation(int depth) {
        return sum(depth) + blank() + "=<>".charAt(below(3)) + sum(depth);
    }

    private String sum(int depth) {
        int dice = below(depth > 0 ? 5 : 2);
        switch (dice) {
            case 0: return blank() + "askoyn".charAt(below(6));
            case 1: return blank() + below(below(3) == 0 ? 10000 : 12);
            case 2: return "[" + sum(depth - 1) + "]" + blank();
            default: return sum(depth - 1) + blank() + "+-*/".charAt(below(4)) + sum(depth - 1);
        }
    }

    // ---- calls ----

    private void act(String at) {
        int dice = below(22);
        int lad = lad();
        int n = dice < 3 ? near(1, 3) : near(1, 60);
        switch (dice) {
            case 0: case 1: case 2: case 3:
                due(at + "years " + n, mill.years(n), plain.years(n));
                break;
            case 4: case 5:
                long seed = random.nextLong();
                n = below(2) == 0 ? near(1, 4) : n;
                due(at + "winters " + n + " " + seed, mill.winters(n, seed), plain.winters(n, seed));
                break;
            case 6: case 7: case 8:
                int v = near(0, 40);
                due(at + "show " + lad + " " + v, mill.show(lad, v), plain.show(lad, v));
                break;
            case 9: case 10: case 11:
                due(at + "warn " + lad, mill.warn(lad), plain.warn(lad));
                break;
            case 12:
                due(at + "leave " + lad, mill.leave(lad), plain.leave(lad));
                break;
            case 13: case 14: case 15: case 16:
                due(at + "come " + lad, mill.come(lad), plain.come(lad));
                break;
            case 17: case 18: case 19:
                undo(at);
                break;
            case 20:
                int bold = near(0, 9);
                due(at + "bold " + bold, mill.bold(bold), plain.bold(bold));
                break;
            default:
                keep(at);
        }
    }

    private void undo(String at) {
        int many = below(3) == 0 ? below(45) : 1;
        for (int i = 0; i < many; i++) {
            due(at + "undo", mill.undo(), plain.undo());
        }
    }

    private void keep(String at) {
        if (below(2) == 0) {
            due(at + "image", mill.image(), plain.image());
        } else {
            due(at + "back", mill.back(), plain.back());
        }
    }

    private void ask(String at) {
        int lad = lad();
        int other = lad();
        int i = near(-1, 6);
        int k = near(1, 3);
        switch (below(16)) {
            case 0: due(at + "chosen", mill.chosen(), plain.chosen()); break;
            case 1: due(at + "order", mill.order(), plain.order()); break;
            case 2: due(at + "safe " + lad, mill.safe(lad), plain.safe(lad)); break;
            case 3: due(at + "holds " + lad, mill.holds(lad), plain.holds(lad)); break;
            case 4: due(at + "tells " + lad, mill.tells(lad), plain.tells(lad)); break;
            case 5: due(at + "twins " + i, mill.twins(i), plain.twins(i)); break;
            case 6: due(at + "chain " + lad + " " + other, mill.chain(lad, other), plain.chain(lad, other)); break;
            case 7: due(at + "trusts " + lad, mill.trusts(lad), plain.trusts(lad)); break;
            case 8: due(at + "friends " + lad, mill.friends(lad), plain.friends(lad)); break;
            case 9: due(at + "spies " + k + " " + i, mill.spies(k, i), plain.spies(k, i)); break;
            case 10: due(at + "clear " + k, mill.clear(k), plain.clear(k)); break;
            case 11: due(at + "best " + k, mill.best(k), plain.best(k)); break;
            case 12: due(at + "rests " + lad + other + i, mill.rests(lad, other, i), plain.rests(lad, other, i)); break;
            case 13: due(at + "learns " + lad, mill.learns(lad), plain.learns(lad)); break;
            case 14: due(at + "hides " + lad, mill.hides(lad), plain.hides(lad)); break;
            default: game(at, lad, other);
        }
    }

    private void game(String at, int lad, int other) {
        int x = near(0, 1);
        int y = near(0, 1);
        int what = near(0, 1);
        due(at + "game " + lad + other + x + y + what, mill.game(lad, other, x, y, what), plain.game(lad, other, x, y, what));
    }

    private void askMore(String at) {
        int lad = lad();
        int n = near(0, 30);
        int place = near(0, 5);
        int i = near(0, Math.max(1, mill.count(12)));
        boolean is = below(2) == 0;
        int lads = near(1, Math.max(1, (1 << mill.count(0)) - 1));
        int sort = near(0, 1);
        int a = below(2) == 0 ? near(0, 99) : 10 + below(20);
        switch (below(14)) {
            case 0: due(at + "odds " + lad + " " + n, mill.odds(lad, n), plain.odds(lad, n)); break;
            case 1: due(at + "flight " + place, mill.flight(place), plain.flight(place)); break;
            case 2: due(at + "reach", mill.reach(), plain.reach()); break;
            case 3: due(at + "dare", mill.dare(), plain.dare()); break;
            case 4: due(at + "shares " + lad, mill.shares(lad), plain.shares(lad)); break;
            case 5: due(at + "dug", mill.dug(), plain.dug()); break;
            case 6: due(at + "ablest", mill.ablest(), plain.ablest()); break;
            case 7: due(at + "oldest", mill.oldest(), plain.oldest()); break;
            case 8: due(at + "out " + lads, mill.out(lads, is), plain.out(lads, is)); break;
            case 9: due(at + "grave " + sort + " " + a, mill.grave(sort, a, is), plain.grave(sort, a, is)); break;
            case 10: path(at, lad); break;
            default:
                for (int what = -1; what < 4; what++) {
                    due(at + "log " + i + " " + what, mill.log(i, what), plain.log(i, what));
                }
        }
    }

    private void path(String at, int lad) {
        int n = near(1, below(20) == 0 ? 5 : 3);
        int what = near(0, 1);
        due(at + "path " + lad + " " + n + " " + what, mill.path(lad, n, what), plain.path(lad, n, what));
    }
}
