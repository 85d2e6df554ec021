/** What an object answers, in groups. Each group is few enough calls for an object that answers 512 of them. */
enum Look {
    NUMBERS {
        @Override
        void at(EdgeHolders x, StringBuilder seen) {
            for (int what = 0; what < 8; what++) {
                tell(seen, x.value(what));
            }
            tell(seen, x.densest());
            tell(seen, x.least());
            tell(seen, x.tooDense());
            tell(seen, x.critical());
            tell(seen, x.turnsToBalance());
            tell(seen, x.leastCapacity());
            seen.append(x.density()).append(' ').append(x.digest());
        }
    },
    NODES {
        @Override
        void at(EdgeHolders x, StringBuilder seen) {
            int nodes = x.value(0);
            for (int node = 0; node < nodes; node++) {
                for (int what = 0; what < 5; what++) {
                    tell(seen, x.node(node, what));
                }
            }
        }
    },
    EDGES {
        @Override
        void at(EdgeHolders x, StringBuilder seen) {
            int edges = x.value(1);
            for (int index = 0; index < edges; index++) {
                int edge = x.edgeAt(index);
                tell(seen, edge);
                for (int what = 0; what < 4; what++) {
                    tell(seen, x.edge(edge, what));
                }
            }
        }
    },
    PATHS {
        @Override
        void at(EdgeHolders x, StringBuilder seen) {
            int nodes = x.value(0);
            for (int pair = 0; pair < nodes * nodes; pair++) {
                int length = x.path(pair / nodes, pair % nodes);
                tell(seen, length);
                if (length > 0) {
                    tell(seen, x.step(pair / nodes, pair % nodes, length - 1));
                }
            }
        }
    },
    PARTS {
        @Override
        void at(EdgeHolders x, StringBuilder seen) {
            int parts = 1 << x.value(0);
            int apart = parts > 256 ? 17 : 1;
            for (int part = 1; part < parts; part += apart) {
                tell(seen, x.inner(part));
            }
        }
    },
    WHAT_IF {
        @Override
        void at(EdgeHolders x, StringBuilder seen) {
            int nodes = x.value(0);
            int edges = x.value(1);
            for (int pair = 0; pair < nodes * nodes; pair++) {
                tell(seen, pair / nodes == pair % nodes ? 0 : x.leastWith(pair / nodes, pair % nodes));
            }
            for (int index = 0; index < edges; index++) {
                tell(seen, x.leastWithout(x.edgeAt(index)));
            }
        }
    },
    TEXT {
        @Override
        void at(EdgeHolders x, StringBuilder seen) {
            tell(seen, x.carryOut());
            tell(seen, x.digest());
            tell(seen, x.clearText());
        }
    },
    SAVED {
        @Override
        void at(EdgeHolders x, StringBuilder seen) {
            for (int left = 4; left >= 0; left--) {
                Object undone = Check.thrownBy(x::undo);
                seen.append(undone).append(' ').append(x.digest()).append(' ');
            }
        }
    },
    NEXT {
        @Override
        void at(EdgeHolders x, StringBuilder seen) {
            seen.append(Check.thrownBy(() -> tell(seen, x.add(1, 0)))).append(' ');
            tell(seen, x.setCapacity(0, 1));
            tell(seen, x.balance());
            tell(seen, x.digest());
        }
    };

    interface Maker {
        EdgeHolders make();
    }

    abstract void at(EdgeHolders x, StringBuilder seen);

    private static void tell(StringBuilder seen, long answer) {
        seen.append(answer).append(' ');
    }

    String at(EdgeHolders x) {
        StringBuilder seen = new StringBuilder();
        at(x, seen);
        return seen.toString();
    }

    /** Both make objects that answer all questions alike, now and behind undo and the orders of the text. */
    static void dueAlike(Check check, String what, Maker one, Maker other) {
        for (Look look : values()) {
            check.dueText(what + ", " + look, look.at(one.make()), look.at(other.make()));
        }
    }
}
