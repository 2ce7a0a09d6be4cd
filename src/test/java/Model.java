import java.util.ArrayDeque;
import java.util.ArrayList;
import java.util.Deque;
import java.util.Iterator;
import java.util.List;
import java.util.Map;
import java.util.TreeMap;

/**
 * The document told a second time, over the Java library's collections, for RandomRunsTest.
 * It writes numbers where the program writes names, so that a wrong constant shows.
 */
final class Model {
    static final class Proc {
        final int[][] code = new int[32][2];
        final int[][] actions = new int[32][2];
        int pc, a, b, mask, sleepLeft, status;
        boolean stopped;
        int dead = 0;
        final List<int[]> frames = new ArrayList<>();
        final TreeMap<Integer, Integer> pending = new TreeMap<>();
        final Deque<int[]> queue = new ArrayDeque<>();
    }

    final Proc[] procs;
    final int maxDepth;
    final List<int[]> log = new ArrayList<>();
    int serials = 0;

    Model(int procs, int maxDepth) {
        this.procs = new Proc[Math.max(1, Math.min(4, procs))];
        this.maxDepth = Math.max(1, Math.min(4, maxDepth));
        for (int i = 0; i < this.procs.length; i++) {
            this.procs[i] = new Proc();
            for (int[] action : this.procs[i].actions) {
                action[0] = -1;
            }
        }
    }

    private Proc find(int pid) {
        return pid >= 0 && pid < procs.length ? procs[pid] : null;
    }

    private void log(int kind, int pid, int value, int serial) {
        log.add(new int[] {kind, pid, value, serial});
    }

    private void die(Proc p, int how, int status) {
        p.dead = how;
        p.status = status;
        p.pending.clear();
        p.queue.clear();
        p.sleepLeft = 0;
        p.stopped = false;
    }

    int poke(int pid, int addr, int op, int arg) {
        if (find(pid) == null) {
            return -3;
        }
        if (addr < 0 || addr > 31 || op < 0 || op > 15) {
            return -22;
        }
        procs[pid].code[addr] = new int[] {op, arg};
        return 0;
    }

    int setAction(int pid, int sig, int handler, int flags) {
        Proc p = find(pid);
        if (p == null || p.dead != 0) {
            return -3;
        }
        return replaceAction(p, sig, handler, flags);
    }

    private int replaceAction(Proc p, int sig, int handler, int flags) {
        if (sig < 1 || sig > 31 || sig == 9 || sig == 15 || handler < -2 || handler > 31) {
            return -22;
        }
        int old = p.actions[sig][0];
        p.actions[sig] = new int[] {handler, flags & 7};
        return old;
    }

    int send(int dst, int sig) {
        if (sig < 1 || sig > 31) {
            return -22;
        }
        Proc p = find(dst);
        if (p == null || p.dead != 0) {
            return -3;
        }
        if (sig >= 16 && p.queue.size() == 8) {
            return -11;
        }
        if (sig == 9) {
            int s = ++serials;
            die(p, 4, 9);
            log(2, dst, 9, s);
            return s;
        }
        boolean resumed = false;
        if (sig == 12 || sig == 15) {
            p.pending.remove(14);
        } else if (sig == 14) {
            p.pending.remove(12);
            p.pending.remove(15);
            resumed = p.stopped;
            p.stopped = false;
        }
        int r = 0;
        if (sig >= 16) {
            r = ++serials;
            p.queue.addLast(new int[] {sig, r});
        } else if (!p.pending.containsKey(sig)) {
            r = ++serials;
            p.pending.put(sig, r);
        }
        if (resumed) {
            log(5, dst, 14, r);
        }
        return r;
    }

    int run(int rounds) {
        int counted = 0;
        for (int i = 0; i < Math.min(rounds, 64); i++) {
            for (int pid = 0; pid < procs.length; pid++) {
                if (procs[pid].dead == 0 && !procs[pid].stopped) {
                    counted++;
                    step(pid, procs[pid]);
                }
            }
        }
        return counted;
    }

    private static boolean blocked(Proc p, int sig) {
        return (p.mask >>> sig) % 2 != 0;
    }

    private int[] takeDeliverable(Proc p) {
        for (Map.Entry<Integer, Integer> entry : p.pending.entrySet()) {
            if (!blocked(p, entry.getKey())) {
                int[] taken = {entry.getKey(), entry.getValue()};
                p.pending.remove(taken[0]);
                return taken;
            }
        }
        for (Iterator<int[]> it = p.queue.iterator(); it.hasNext();) {
            int[] entry = it.next();
            if (!blocked(p, entry[0])) {
                it.remove();
                return entry;
            }
        }
        return null;
    }

    private void step(int pid, Proc p) {
        int[] taken = takeDeliverable(p);
        if (taken != null) {
            deliver(pid, p, taken[0], taken[1]);
        } else if (p.sleepLeft > 0) {
            if (--p.sleepLeft == 0) {
                p.a = 0;
                p.pc++;
            }
        } else if (p.pc < 0 || p.pc > 31) {
            die(p, 4, 11);
            log(2, pid, 11, 0);
        } else {
            instruction(pid, p, p.code[p.pc][0], p.code[p.pc][1]);
        }
    }

    private void deliver(int pid, Proc p, int sig, int s) {
        int h = p.actions[sig][0];
        int f = p.actions[sig][1];
        if (h == -2 || h == -1 && (sig == 13 || sig == 14)) {
            log(4, pid, sig, s);
        } else if (h == -1 && (sig == 12 || sig == 15)) {
            p.stopped = true;
            log(3, pid, sig, s);
        } else if (h == -1 || p.frames.size() == maxDepth) {
            int status = h == -1 ? sig : 11;
            die(p, 4, status);
            log(2, pid, status, s);
        } else {
            int[] frame = {p.pc, p.a, p.b, p.mask};
            if (p.sleepLeft > 0 && (f & 1) == 0) {
                frame[0] = p.pc + 1;
                frame[1] = -4;
            }
            p.sleepLeft = 0;
            p.frames.add(frame);
            if ((f & 2) == 0) {
                setMask(p, p.mask | 1 << sig);
            }
            p.a = sig;
            p.b = s;
            p.pc = h;
            if ((f & 4) != 0) {
                p.actions[sig] = new int[] {-1, 0};
            }
            log(1, pid, sig, s);
        }
    }

    private static void setMask(Proc p, int mask) {
        p.mask = mask & 0xffff7dfe;
    }

    private void instruction(int pid, Proc p, int op, int k) {
        int next = p.pc + 1;
        switch (op) {
            case 0 -> {
                die(p, 3, p.a);
                log(7, pid, p.a, 0);
                next = p.pc;
            }
            case 1 -> p.a = k;
            case 2 -> p.b = k;
            case 3 -> p.a += k;
            case 4 -> next = k;
            case 5 -> next = p.a != 0 ? k : next;
            case 6 -> {
                int r = send(p.b, k);
                if (p.dead != 0) {
                    next = p.pc;
                } else {
                    p.a = r;
                }
            }
            case 7 -> {
                int old = p.mask;
                if (k >= 0 && k <= 2) {
                    setMask(p, k == 0 ? old | p.a : k == 1 ? old & ~p.a : p.a);
                }
                p.a = k >= 0 && k <= 2 ? old : -22;
            }
            case 8 -> p.a = replaceAction(p, k, p.a, p.b);
            case 9 -> {
                if (k > 0) {
                    p.sleepLeft = k;
                    next = p.pc;
                } else {
                    p.a = 0;
                }
            }
            case 10 -> {
                if (p.frames.isEmpty()) {
                    p.a = -22;
                } else {
                    int[] frame = p.frames.remove(p.frames.size() - 1);
                    next = frame[0];
                    p.a = frame[1];
                    p.b = frame[2];
                    p.mask = frame[3];
                }
            }
            case 11 -> log(6, pid, p.a, 0);
            case 12 -> p.b = pid;
            case 13 -> p.a = pendingBits(p);
            case 14 -> {
                int a = p.a;
                p.a = p.b;
                p.b = a;
            }
            default -> { }
        }
        p.pc = next;
    }

    private static int pendingBits(Proc p) {
        int bits = 0;
        for (int sig : p.pending.keySet()) {
            bits |= 1 << sig;
        }
        for (int[] entry : p.queue) {
            bits |= 1 << entry[0];
        }
        return bits;
    }

    /** Every readable value, in the order of Checks.view. */
    long[] view() {
        long[] seen = new long[1100];
        int n = 0;
        for (int pid = 0; pid < 4; pid++) {
            Proc p = find(pid);
            if (p == null) {
                seen[n] = -1;
                n += 1 + 10 + 48 + 62;
                continue;
            }
            seen[n++] = p.dead != 0 ? p.dead : p.stopped ? 2 : p.sleepLeft > 0 ? 1 : 0;
            int depth = p.frames.size();
            int[] regs = {p.pc, p.a, p.b, 64 - 4 * depth, p.mask, depth, p.sleepLeft, p.status, pendingBits(p), p.queue.size()};
            for (int value : regs) {
                seen[n++] = value;
            }
            List<int[]> queue = new ArrayList<>(p.queue);
            for (int i = 0; i < 16; i++) {
                seen[n++] = i / 4 < depth ? p.frames.get(i / 4)[i % 4] : 0;
                seen[n++] = i / 2 < queue.size() ? queue.get(i / 2)[i % 2] : 0;
                seen[n++] = p.pending.getOrDefault(i, 0);
            }
            for (int i = 2; i < 64; i++) {
                seen[n++] = p.actions[i / 2][i % 2];
            }
        }
        seen[n++] = log.size();
        for (int i = 0; i < 512; i++) {
            seen[n++] = i / 4 < log.size() ? log.get(i / 4)[i % 4] : 0;
        }
        return seen;
    }
}
