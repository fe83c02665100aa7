/** What can be asked of an object, as one text: two objects that are alike show alike. Nothing is changed by it. */
final class Show {
    private Show() {
    }

    static String men(ColdFeet feet) {
        StringBuilder shown = new StringBuilder();
        for (int man = 0; man < feet.count(0); man++) {
            shown.append(" man ").append(man).append(':');
            for (int what = 0; what <= 8; what++) {
                shown.append(' ').append(feet.man(man, what));
            }
        }
        return shown.toString();
    }

    static String things(ColdFeet feet) {
        StringBuilder shown = new StringBuilder();
        for (int thing = 0; thing < feet.count(1); thing++) {
            shown.append(" thing ").append(thing).append(':');
            for (int what = 0; what <= 4; what++) {
                shown.append(' ').append(feet.thing(thing, what));
            }
        }
        return shown.toString();
    }

    /** What is now. */
    static String state(ColdFeet feet) {
        StringBuilder shown = new StringBuilder("counts");
        for (int what = 0; what <= 13; what++) {
            shown.append(' ').append(feet.count(what));
        }
        return shown.append(" undo ").append(feet.count(14)).append(men(feet)).append(things(feet)).toString();
    }

    /** What is now, and what would come. */
    static String all(ColdFeet feet) {
        StringBuilder shown = new StringBuilder(state(feet));
        for (int man = 0; man < feet.count(0); man++) {
            shown.append(" of man ").append(man).append(": ").append(feet.goes(man)).append(' ').append(feet.premium(man))
                .append(' ').append(feet.widow(man, 3)).append(' ').append(feet.rues(man));
            for (int what = 0; what < 3; what++) {
                shown.append(' ').append(feet.law(what, man));
            }
        }
        for (int thing = 0; thing < feet.count(1); thing++) {
            shown.append(" of thing ").append(thing).append(": ").append(feet.out(thing)).append(' ').append(feet.next(thing));
        }
        shown.append(" ahead");
        for (int what = 0; what <= 4; what++) {
            shown.append(' ').append(feet.ahead(20, what));
        }
        shown.append(" match, order");
        for (int what = 0; what <= 6; what++) {
            shown.append(' ').append(feet.match(what)).append(' ').append(feet.order(what)).append(' ').append(feet.cover(what));
        }
        return shown.append(" chance ").append(feet.chance(7, 9, 1)).toString();
    }
}
