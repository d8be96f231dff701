/** Drives an object for tests, and tells the frames of its wire as texts. */
final class Watch {
  final Lanternserver x = new Lanternserver();

  Watch type(String text) {
    int k = 0;
    while (k < text.length()) {
      int same = 1;
      while (k + same < text.length() && text.charAt(k + same) == text.charAt(k) && same < 300) same++;
      x.put(text.charAt(k), same);
      k += same;
    }
    return this;
  }

  /** Writes a text on a connection; returns how many of its bytes were taken. */
  int write(int connection, String text) {
    x.clear();
    type(text);
    int many = x.write(connection);
    x.clear();
    return many;
  }

  /** Reads all that there is on a client's connection, with ticks between; returns it as a text. */
  String readAll(int connection) {
    int from = x.connectionAt(connection, 14);
    for (int k = 0; k < 60; k++) {
      x.settle(5);
      if (x.read(connection, 300) < 1) break;
    }
    return read(connection, from);
  }

  String read(int connection, int from) {
    StringBuilder text = new StringBuilder();
    for (int k = from; k < x.connectionAt(connection, 14); k++) text.append((char) x.readAt(connection, k));
    return text.toString();
  }

  String answer(int request) {
    StringBuilder text = new StringBuilder();
    for (int k = 0; k < x.servedAt(request, 3); k++) text.append((char) x.answerAt(request, k));
    return text.toString();
  }

  String file(int file) {
    StringBuilder text = new StringBuilder();
    for (int k = 0; k < x.fileAt(file, 2); k++) text.append((char) x.fileByteAt(file, true, k));
    text.append('=');
    for (int k = 0; k < x.fileAt(file, 0); k++) text.append((char) x.fileByteAt(file, false, k));
    return text.append(" v").append(x.fileAt(file, 1)).toString();
  }

  int[] bytes(int frame) {
    int[] bytes = new int[x.frameAt(frame, 0)];
    for (int k = 0; k < bytes.length; k++) bytes[k] = x.byteAt(frame, k);
    return bytes;
  }

  String hex(int frame, int from, int behind) {
    StringBuilder text = new StringBuilder();
    int[] bytes = bytes(frame);
    for (int k = from; k < Math.min(behind, bytes.length); k++) {
      if (k > from) text.append(' ');
      text.append(String.format("%02x", bytes[k]));
    }
    return text.toString();
  }

  static int two(int[] bytes, int at) {
    return bytes[at] << 8 | bytes[at + 1];
  }

  static int four(int[] bytes, int at) {
    return two(bytes, at) << 16 | two(bytes, at + 2);
  }

  /** The sum of section 4, written once more. */
  static int sum(int[] bytes, int from, int behind) {
    int total = 0;
    for (int k = from; k < behind; k++) total += (k - from) % 2 == 0 ? bytes[k] << 8 : bytes[k];
    while (total >> 16 != 0) total = (total & 65535) + (total >> 16);
    return ~total & 65535;
  }

  /** The sum over the head of section 6 and a message that stands behind the header. */
  static int headedSum(int[] bytes) {
    int length = two(bytes, 16) - 20;
    int[] all = new int[12 + length];
    System.arraycopy(bytes, 26, all, 0, 8);
    all[9] = bytes[23];
    all[10] = length >> 8;
    all[11] = length & 255;
    System.arraycopy(bytes, 34, all, 12, length);
    return sum(all, 0, all.length);
  }

  static int iss(int connection) {
    return (int) (4294967096L + 1048583L * connection);
  }

  /** Tells a frame: "1>0 SA 0 1 w300 b0" is flags, sequence less iss, acknowledgement less the other's, and so on. */
  String frame(int frame) {
    int[] b = bytes(frame);
    String ends = b[11] - 1 + ">" + (b[0] == 255 ? "*" : "" + (b[5] - 1));
    if (two(b, 12) == 0x0806) return ends + (b[21] == 1 ? " asks " : " tells ") + (b[41] - 1);
    int part = two(b, 20);
    if ((part & 0x3fff) != 0) {
      return ends + " part " + (part & 0x1fff) * 8 + "+" + (two(b, 16) - 20) + ((part & 0x2000) != 0 ? " more" : "");
    }
    if (b[23] == 1) return ends + (b[34] == 8 ? " echo " : " echoed ") + two(b, 38);
    if (b[23] == 17) return ends + " names " + two(b, 34) + ">" + two(b, 36);
    String flags = "";
    for (int k = 0; k < 5; k++) {
      if ((b[47] >> k & 1) != 0) flags += "FSRPA".charAt(k);
    }
    int from = connectionOf(b[29] - 1, two(b, 34), b[33] - 1, two(b, 36));
    int to = connectionOf(b[33] - 1, two(b, 36), b[29] - 1, two(b, 34));
    int sequence = four(b, 38) - (from < 0 ? 0 : iss(from));
    int acknowledgement = four(b, 42) - (to < 0 || four(b, 42) == 0 ? 0 : iss(to));
    return ends + " " + flags + " " + Integer.toUnsignedString(sequence) + " "
        + Integer.toUnsignedString(acknowledgement) + " w" + two(b, 48) + " b"
        + (two(b, 16) - 20 - (b[46] >> 4) * 4);
  }

  /** Finds the last connection with these ends: by its own port, and by what the other end's port tells. */
  private int connectionOf(int host, int port, int otherHost, int otherPort) {
    if (port >= 40000) return port - 40000;
    int found = -1;
    for (int k = 0; k < x.count(6); k++) {
      if (x.connectionAt(k, 1) == host && x.connectionAt(k, 3) == port
          && x.connectionAt(k, 2) == otherPort - 40000) {
        found = k;
      }
    }
    return found;
  }

  String wire() {
    StringBuilder text = new StringBuilder();
    for (int k = 0; k < x.count(2); k++) text.append(k > 0 ? "; " : "").append(frame(k));
    return text.toString();
  }

  /** Tells all that can be asked for, so that two moments, or two objects, can be compared. */
  String all() {
    StringBuilder text = new StringBuilder();
    for (int what = 0; what <= 15; what++) text.append(x.count(what)).append(' ');
    text.append(x.agrees()).append(' ').append(x.errors()).append(' ').append(x.deliveredShare()).append(' ')
        .append(x.meanAnswer()).append("\ntape");
    for (int k = 0; k < x.count(15); k++) text.append(' ').append(255 - (x.sum(k, k + 1) >> 8));
    for (int h = 0; h < x.count(1); h++) {
      text.append("\nhost");
      for (int what = 0; what <= 5; what++) text.append(' ').append(x.hostAt(h, what));
      for (int other = 0; other < x.count(1); other++) text.append(' ').append(x.tableAt(h, other));
    }
    for (int f = 0; f < x.count(2); f++) {
      text.append("\nframe");
      for (int what = 0; what <= 3; what++) text.append(' ').append(x.frameAt(f, what));
      text.append(": ").append(hex(f, 0, 614));
    }
    text.append("\nanswered");
    for (int k = 0; k < echoes(); k++) text.append(' ').append(x.isAnswered(k));
    text.append("\nfound");
    for (int k = 0; k < lookups(); k++) text.append(' ').append(x.found(k));
    for (int k = 0; k < x.count(6); k++) text.append("\n").append(connection(k)).append(' ').append(read(k, 0));
    for (int k = 0; k < x.count(8); k++) text.append("\n").append(file(k));
    for (int k = 0; k < x.count(10); k++) {
      text.append("\nserved");
      for (int what = 0; what <= 6; what++) text.append(' ').append(x.servedAt(k, what));
      text.append(' ').append(answer(k));
    }
    return text.toString();
  }

  /** The MTU of each host, which only setMtu() tells. */
  String mtus() {
    StringBuilder text = new StringBuilder();
    for (int h = 0; h < x.count(1); h++) {
      int mtu = x.setMtu(h, 600);
      x.setMtu(h, mtu);
      text.append(mtu).append(' ');
    }
    return text.toString();
  }

  int echoes() {
    for (int k = 0; ; k++) {
      try {
        x.isAnswered(k);
      } catch (IndexOutOfBoundsException none) {
        return k;
      }
    }
  }

  int lookups() {
    for (int k = 0; ; k++) {
      try {
        x.found(k);
      } catch (IndexOutOfBoundsException none) {
        return k;
      }
    }
  }

  String connection(int connection) {
    StringBuilder text = new StringBuilder();
    for (int k = 0; k <= 18; k++) text.append(k > 0 ? " " : "").append(x.connectionAt(connection, k));
    return text.toString();
  }
}
