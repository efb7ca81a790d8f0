/** All that calls can tell of an object, as a text. The object is used up by it (some 200 calls). */
final class Snapshot {
  private final GuildCharter x;
  private final StringBuilder all = new StringBuilder();

  private Snapshot(GuildCharter x) {
    this.x = x;
  }

  static String of(GuildCharter x) {
    Snapshot shot = new Snapshot(x);
    shot.plain();
    shot.play();
    shot.seen();
    shot.acts();
    shot.boxes();
    shot.tape();
    return shot.all.toString();
  }

  private void put(String name, int answer) {
    all.append(name).append(' ').append(answer).append('\n');
  }

  private void plain() {
    for (int what = 0; what < 12; what++) {
      put("about " + what, x.about(what));
    }
    put("fault", x.fault(0));
    put("fault's place", x.fault(1));
    for (int i = 0; i < 6; i++) {
      put("lies " + i, x.lies(i));
    }
    text();
    row("at first");
    put("next", x.next());
    put("readings", x.readings());
    put("means", x.means(1));
  }

  private void text() {
    for (int word = 0; word < x.about(0); word++) {
      put("worth " + word, x.worth(word, 0));
      put("behind " + word, x.behind(0, word, 1));
    }
    put("used", x.used());
    put("shortest", x.shortest(0));
  }

  private void row(String when) {
    for (int place = 0; place < x.about(4); place++) {
      put(when + ", turn " + place, x.turn(place));
      put(when + ", word " + place, x.word(place));
    }
  }

  private void play() {
    put("fit", x.fit());
    put("swap", x.swap());
    put("bribe", x.bribe(2, 1));
    put("lots", x.lots(0));
    put("struck", x.struck(0));
    for (int guilds = 1; guilds <= 7; guilds++) {
      put("held " + guilds, x.held(guilds));
    }
    put("share", x.share(2, 0));
    put("doubtful", x.doubtful());
    put("best", x.best(1));
    put("best's first", x.lies(0));
    put("written", x.written(2));
    put("written's last", x.lies(2));
  }

  private void seen() {
    for (int k = -1; k <= 4; k++) {
      put("orders " + k, x.orders(k));
    }
    for (int number = 0; number <= x.about(8) && number < 31; number++) {
      put("untell " + number, x.untell(number) ? 1 : 0);
    }
  }

  private void acts() {
    for (int act = 0; act < 45 && x.undo(); act++) {
      put("undone", x.about(5));
      put("undone, turn", x.turn(act % 3));
    }
    row("taken back");
    for (int act = 0; act < 45 && x.redo(); act++) {
      put("redone", x.about(5));
      put("redone, turn", x.turn(act % 3));
    }
    row("done again");
  }

  private void boxes() {
    for (int box = 0; box < 3; box++) {
      put("back " + box, x.back(box));
      row("of box " + box);
    }
  }

  private void tape() {
    put("port", x.port());
    for (int what = 0; what < 5; what++) {
      put("of the tape " + what, x.about(what));
    }
    put("of the tape, fault", x.fault(0));
    put("of the tape, place", x.fault(1));
  }
}
