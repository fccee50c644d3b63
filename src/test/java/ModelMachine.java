import java.util.ArrayDeque;
import java.util.ArrayList;
import java.util.Deque;
import java.util.List;

/** A bare machine as the document's part 1 words it, sentence by sentence; the tests hold the class against it. */
final class ModelMachine {
    final int[] memory;
    final int[] r = new int[8];
    int mode;
    int pc = 16;
    int base;
    int bound;
    int timer;
    boolean runOut;
    boolean halted;
    int steps;
    final Deque<Integer> typed = new ArrayDeque<>();
    final List<Integer> console = new ArrayList<>();
    final int[][] disk = new int[8][16];

    private static final class Trap extends Exception {
        private static final long serialVersionUID = 1L;
        final int cause;
        final int with;

        Trap(int cause, int with) {
            super(null, null, false, false);
            this.cause = cause;
            this.with = with;
        }
    }

    ModelMachine(int size, int[] program) {
        memory = new int[size];
        System.arraycopy(program, 0, memory, 0, program.length);
        bound = size;
    }

    int run(int wanted) {
        int done = 0;
        while (done < wanted && !halted) {
            step();
            done++;
        }
        steps += done;
        return done;
    }

    private int place(int n) throws Trap {
        if (n >= bound || base + n >= memory.length) {
            throw new Trap(2, n);
        }
        return base + n;
    }

    private int[] places(int n, int count) throws Trap {
        int[] places = new int[count];
        for (int i = 0; i < count; i++) {
            places[i] = place((n + i) % 65536);
        }
        return places;
    }

    private void step() {
        int before = mode;
        int old = pc;
        try {
            if (mode == 1 && runOut) {
                throw new Trap(4, 0);
            }
            int w = memory[place(pc)];
            int n = memory[place((pc + 1) % 65536)];
            pc = (pc + 2) % 65536;
            instruction(w, n, old);
            if (before == 1 && timer > 0) {
                timer--;
                if (timer == 0) {
                    runOut = true;
                }
            }
        } catch (Trap trap) {
            memory[0] = mode;
            memory[1] = trap.cause == 3 ? (old + 2) % 65536 : old;
            memory[2] = base;
            memory[3] = bound;
            memory[8] = trap.cause;
            memory[9] = trap.with;
            status(memory[4], memory[5], memory[6], memory[7]);
            if (trap.cause == 4) {
                runOut = false;
            }
        }
    }

    private void status(int newMode, int newPc, int newBase, int newBound) {
        mode = newMode == 0 ? 0 : 1;
        pc = newPc;
        base = newBase;
        bound = newBound;
    }

    private void instruction(int w, int n, int old) throws Trap {
        int operation = w / 64;
        int a = w / 8 % 8;
        int b = w % 8;
        if (operation > 24) {
            throw new Trap(5, w);
        }
        if (mode == 1 && (operation == 0 || operation >= 17)) {
            throw new Trap(1, w);
        }
        int x = (r[b] + n) % 65536;
        if (operation == 0) {
            halted = true;
            pc = old;
        } else if (operation == 1) {
            r[a] = n;
        } else if (operation == 2) {
            r[a] = memory[place(n)];
        } else if (operation == 3) {
            memory[place(n)] = r[a];
        } else if (operation == 4) {
            r[a] = memory[place(x)];
        } else if (operation == 5) {
            memory[place(x)] = r[a];
        } else if (operation == 6) {
            r[a] = r[b];
        } else if (operation == 7) {
            r[a] = (r[a] + r[b]) % 65536;
        } else if (operation == 8) {
            r[a] = (r[a] - r[b] + 65536) % 65536;
        } else if (operation == 9) {
            r[a] &= r[b];
        } else if (operation == 10) {
            r[a] = r[a] < r[b] ? 1 : 0;
        } else if (operation == 11) {
            for (int i = 0; i < n % 16; i++) {
                r[a] = n / 16 % 2 == 0 ? r[a] * 2 % 65536 : r[a] / 2;
            }
        } else if (operation == 12) {
            pc = n;
        } else if (operation == 13) {
            pc = r[a] == 0 ? n : pc;
        } else if (operation == 14) {
            pc = r[a];
        } else if (operation == 15) {
            r[a] = pc;
            pc = n;
        } else if (operation == 16) {
            throw new Trap(3, n);
        } else {
            privileged(operation, a, n, x);
        }
    }

    private void privileged(int operation, int a, int n, int x) throws Trap {
        if (operation == 17) {
            int[] p = places(n, 4);
            status(memory[p[0]], memory[p[1]], memory[p[2]], memory[p[3]]);
        } else if (operation == 18) {
            int[] p = places(n, 4);
            memory[p[0]] = mode;
            memory[p[1]] = pc;
            memory[p[2]] = base;
            memory[p[3]] = bound;
        } else if (operation == 19) {
            timer = r[a];
            runOut = false;
        } else if (operation == 20) {
            r[a] = timer;
        } else if (operation == 21) {
            r[a] = typed.isEmpty() ? 65535 : typed.remove();
        } else if (operation == 22) {
            console.add(r[a] % 256);
        } else {
            int[] p = places(x, 16);
            for (int i = 0; i < 16; i++) {
                if (operation == 23) {
                    memory[p[i]] = disk[r[a] % 8][i];
                } else {
                    disk[r[a] % 8][i] = memory[p[i]];
                }
            }
        }
    }

    /** Holds all that guest g tells against this machine. */
    void compare(Desk desk, String where, GuestTower x, int g, int depth) {
        int[] told = {mode, pc, base, bound, timer, runOut ? 1 : 0, halted ? 1 : 0, steps, console.size(), typed.size(),
            memory.length, depth};
        for (int what = 0; what < told.length; what++) {
            desk.due(where + " look " + what, told[what], x.look(g, what));
        }
        for (int i = 0; i < 8; i++) {
            desk.due(where + " register " + i, r[i], x.look(g, 20 + i));
        }
        for (int i = 0; i < memory.length; i++) {
            desk.due(where + " word " + i, memory[i], x.word(g, i));
        }
        for (int i = 0; i < 128; i++) {
            desk.due(where + " disk " + i, disk[i / 16][i % 16], x.disk(g, i / 16, i % 16));
        }
        for (int i = 0; i < Math.min(console.size(), 500); i++) {
            desk.due(where + " output " + i, console.get(i), x.output(g, i));
        }
        desk.due(where + " output behind the last", -1, x.output(g, Math.min(console.size(), 500)));
    }
}
