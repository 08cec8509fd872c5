/** Objects at the edges: empty, full and just before full tables, buffers, histories and times. */
enum Scene {
    NEW("") {
        @Override
        void play(SkipRows x) {
        }
    },
    ONE_ROW("k1;") {
        @Override
        void play(SkipRows x) {
            x.put(7, 9);
        }
    },
    EACH_STATE("k1;k2") {
        @Override
        void play(SkipRows x) {
            Tables.putOneOfEachState(x);
        }
    },
    IN_ORDER_OF_KEYS("k") {
        @Override
        void play(SkipRows x) {
            Tables.put(x, "k1u1*3;k2*2;k1u9;k3u5*4");
            x.set(2, 1);
            x.takes(2, 2);
            x.take(2, 1);
            x.take(3, 4);
        }
    },
    ROOM_FOR_ONE("k0") {
        @Override
        void play(SkipRows x) {
            Tables.put(x, "k0*9;k1*9;k2*5");
        }
    },
    ROOM_FOR_ONE_OF_TWO("k0*2") {
        @Override
        void play(SkipRows x) {
            Tables.put(x, "k0*9;k1*9;k2*5");
        }
    },
    FULL_TABLE("k0") {
        @Override
        void play(SkipRows x) {
            for (int row = 0; row < 24; row++) {
                x.put(row % 8, row % 10);
            }
        }
    },
    FULL_TABLE_AND_NO_TEXT("k0*1") {
        @Override
        void play(SkipRows x) {
            Tables.put(x, "k0*9;k1*9;k2*6");
        }
    },
    ALL_HELD("") {
        @Override
        void play(SkipRows x) {
            holdAll(x);
        }
    },
    ALL_DONE("k0*9;k1*9;k2*7") {
        @Override
        void play(SkipRows x) {
            doAll(x);
        }
    },
    ALL_DEAD("k0") {
        @Override
        void play(SkipRows x) {
            Tables.put(x, "k0*9;k1*9;k2*6");
            x.set(3, 24);
            x.set(1, 1);
            x.take(0, 24);
            x.pass(5);
        }
    },
    SWEPT("k0*9;k1*9;k2*6") {
        @Override
        void play(SkipRows x) {
            doAll(x);
            x.sweep();
        }
    },
    ROWS_FOR_A_FULL_TABLE("k0*9;k1*9;k2*6") {
        @Override
        void play(SkipRows x) {
        }
    },
    ROWS_FOR_MORE("k0*9;k1*9;k2*7") {
        @Override
        void play(SkipRows x) {
        }
    },
    ROOM_FOR_ONE_IN_THE_BUFFER("k0u0;k7u9;k0;k1;k2;k3;k4;k5;k6;k7;k0;k1;k2;k3;k4;k5;k6;k7;k") {
        @Override
        void play(SkipRows x) {
            x.put(1, 1);
        }
    },
    FULL_BUFFER(Tables.TEXT_OF_60) {
        @Override
        void play(SkipRows x) {
            x.put(1, 1);
        }
    },
    FULL_BUFFER_OF_NO_TEXT("~!~!~!~!~!~!~!~!~!~!~!~!~!~!~!~!~!~!~!~!~!~!~!~!~!~!~!~!~!~!") {
        @Override
        void play(SkipRows x) {
            x.put(1, 1);
        }
    },
    GREATEST_TIME("") {
        @Override
        void play(SkipRows x) {
            Tables.passAll(x, 9999);
            Tables.put(x, "k1*3");
            x.take(0, 2);
        }
    },
    JUST_BEFORE_GREATEST_TIME("") {
        @Override
        void play(SkipRows x) {
            Tables.passAll(x, 9998);
            Tables.put(x, "k1*3");
            x.set(0, 1);
            x.take(0, 2);
        }
    },
    ROOM_FOR_THE_LONGEST_PASS("") {
        @Override
        void play(SkipRows x) {
            Tables.put(x, "k1*3");
            Tables.passAll(x, 9900);
        }
    },
    NO_ROOM_FOR_THE_LONGEST_PASS("") {
        @Override
        void play(SkipRows x) {
            Tables.put(x, "k1*3");
            Tables.passAll(x, 9901);
        }
    },
    ROOM_FOR_ONE_IN_THE_HISTORY("k3") {
        @Override
        void play(SkipRows x) {
            for (int urgency = 0; urgency < 5; urgency++) {
                x.put(1, urgency);
            }
        }
    },
    FULL_HISTORY("k3") {
        @Override
        void play(SkipRows x) {
            for (int urgency = 0; urgency < 6; urgency++) {
                x.put(1, urgency);
            }
        }
    },
    HISTORY_UNDONE_AND_FULL_AGAIN("k3") {
        @Override
        void play(SkipRows x) {
            for (int urgency = 0; urgency < 9; urgency++) {
                x.put(1, urgency);
            }
            x.undo();
            x.undo();
            x.put(2, 2);
            x.put(2, 3);
            x.put(2, 4);
        }
    },
    HISTORY_UNDONE_WHOLLY("k3") {
        @Override
        void play(SkipRows x) {
            for (int urgency = 0; urgency < 7; urgency++) {
                x.put(1, urgency);
            }
            for (int left = 6; left > 0; left--) {
                x.undo();
            }
        }
    },
    LEAST_SETTINGS("") {
        @Override
        void play(SkipRows x) {
            Tables.put(x, "k1*3;k2u1");
            x.set(0, 1);
            x.set(1, 1);
            x.set(3, 1);
            x.takes(0, 0);
            x.take(2, 24);
        }
    },
    GREATEST_SETTINGS("") {
        @Override
        void play(SkipRows x) {
            Tables.put(x, "k1*3;k2u1");
            x.set(0, 99);
            x.set(1, 9);
            x.set(2, 1);
            x.set(3, 24);
            x.take(2, 24);
        }
    };

    /** What is in the buffer. */
    final String text;

    Scene(String text) {
        this.text = text;
    }

    abstract void play(SkipRows x);

    private static void holdAll(SkipRows x) {
        Tables.put(x, "k0*9;k1*9;k2*6");
        x.set(3, 24);
        x.take(3, 24);
    }

    private static void doAll(SkipRows x) {
        holdAll(x);
        for (int row = 0; row < 24; row++) {
            x.done(3, row);
        }
    }

    SkipRows make() {
        SkipRows x = new SkipRows();
        play(x);
        Check.type(x, text);
        return x;
    }
}
