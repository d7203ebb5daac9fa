/** Compares answers with those that are due, and tells how many were wrong. */
final class Check {
    private String promise = "";
    private int asked;
    private int wrong;

    /** Names what the next answers belong to. */
    void about(String name) {
        promise = name;
    }

    void due(String call, long got, long want) {
        asked++;
        if (got != want) {
            wrong++;
            System.out.println(promise + ": " + call + " answered " + got + ", due is " + want);
        }
    }

    void holds(String what, boolean isTrue) {
        due(what, isTrue ? 1 : 0, 1);
    }

    /** Tells the outcome, and ends with exit code 1 if an answer was wrong. */
    void end() {
        System.out.println(asked + " answers, " + wrong + " wrong");
        if (wrong > 0 || asked == 0) {
            System.exit(1);
        }
    }

    /** Puts a text on the pad, eight characters a call; the last answer. */
    static int put(HarpOrders club, String text) {
        int answer = 0;
        for (int i = 0; i < text.length(); i += 8) {
            answer = club.put(packed(text.substring(i, Math.min(i + 8, text.length()))));
        }
        return answer;
    }

    static long packed(String text) {
        long characters = 0;
        for (int i = 0; i < text.length(); i++) {
            characters = characters << 8 | text.charAt(i);
        }
        return characters;
    }

    /** All that can be asked about what there is, in one text. */
    static String look(HarpOrders club) {
        StringBuilder seen = new StringBuilder();
        for (int what = 0; what <= 18; what++) {
            seen.append(club.count(what)).append(' ');
        }
        for (int member = 0; member < 6; member++) {
            for (int what = 0; what <= 8; what++) {
                seen.append(club.member(member, what)).append(' ');
            }
            for (int gauge = 0; gauge < 8; gauge++) {
                seen.append(club.strings(member, gauge, true)).append(' ');
                seen.append(club.strings(member, gauge, false)).append(' ');
            }
        }
        for (int parcel = 0; parcel < club.count(11); parcel++) {
            for (int what = 0; what <= 4; what++) {
                seen.append(club.parcel(parcel, what)).append(' ');
            }
        }
        return seen.append(club.fault()).append(' ').append(club.untilHome()).toString();
    }

    /** The same without the pad, which undo and saved states leave out, and without the history. */
    static String lookAtClub(HarpOrders club) {
        String[] seen = look(club).split(" ");
        seen[17] = "";
        seen[18] = "";
        seen[seen.length - 2] = "";
        return String.join(" ", seen);
    }
}
