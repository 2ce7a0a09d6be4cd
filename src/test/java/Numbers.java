/** The document's constants written a second time, under short enough names, for the tests of its edges. */
interface Numbers {
    int RUNNING = 0;
    int SLEEPING = 1;
    int STOPPED = 2;
    int EXITED = 3;
    int KILLED = 4;

    int ESRCH = -3;
    int EINTR = -4;
    int EAGAIN = -11;
    int EINVAL = -22;

    int H_DFL = -1;
    int H_IGN = -2;
    int RESTART = 1;
    int NODEFER = 2;
    int RESETHAND = 4;

    int HALT = 0;
    int LDA = 1;
    int LDB = 2;
    int ADD = 3;
    int JMP = 4;
    int JNZ = 5;
    int KILL = 6;
    int MASK = 7;
    int SIGACT = 8;
    int SLEEP = 9;
    int SIGRET = 10;
    int OUT = 11;
    int SELF = 12;
    int PENDING = 13;
    int SWAP = 14;
    int NOP = 15;

    int R_PC = 0;
    int R_A = 1;
    int R_B = 2;
    int R_SP = 3;
    int R_MASK = 4;
    int R_DEPTH = 5;
    int R_SLEEP = 6;
    int R_STATUS = 7;
    int R_PENDING = 8;
    int R_QUEUED = 9;

    int EV_HANDLER = 1;
    int EV_TERM = 2;
    int EV_STOP = 3;
    int EV_IGNORE = 4;
    int EV_CONT = 5;
    int EV_OUT = 6;
    int EV_EXIT = 7;

    int LEAST = Integer.MIN_VALUE;
    int GREATEST = Integer.MAX_VALUE;
    int UNBLOCKABLE = 1 | 1 << 9 | 1 << 15;
}
