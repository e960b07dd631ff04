section
/-! The heap's types; the given cells' (the script, place 0, is not typed). -/
def yTg : List yC := [.inr (.inr (.inl 0)),
  .inr (.inl (0, [(8, 34, 65)])),
  .inr (.inl (0, [(8, 0, 3)])),
  .inr (.inl (0, [(7, 0, 6)])),
  .inr (.inl (0, [(1, 10, 10), (1, 1, 1), (1, -10, -10), (1, -1, -1)]))]
def yT : List yC := [.inl (0, [.inr (.inr [51]), .inr (.inr [53]), .inr (.inr [109]), .inr (.inr [113]), .inr (.inr [117]), .inr (.inr [122]), .inr (.inr [171]), .inr (.inr [173]), .inr (.inr [175]), .inr (.inr [176]), .inl (0, 24), .inl ytop, .inl ytop]),
  .inl (1, [.inr (.inr [52]), .inl (0, 100)]),
  .inr (.inl (1, [(100, 0, 65535)])),
  .inl (2, [.inr (.inr [54]), .inr (.inr [55]), .inr (.inr [56]), .inl (0, 12), .inl (0, 208), .inl (0, 208)]),
  .inr (.inr (.inr (3, [[57], [61], [65], [69], [73], [77], [81], [85], [89], [93], [97], [101], [105]]))),
  .inr (.inl (0, [(208, 0, 12)])),
  .inr (.inl (0, [(208, 0, 6)])),
  .inl (3, [.inr (.inr [58]), .inr (.inr [59]), .inr (.inr [60]), ylong, .inl (0, 17), .inl ytop, .inl (0, 1)]),
  .inr (.inl (0, [(16, ytop)])),
  .inr (.inl (0, [(16, ytop)])),
  .inr (.inl (0, [(16, ytop)])),
  .inl (3, [.inr (.inr [62]), .inr (.inr [63]), .inr (.inr [64]), ylong, .inl (0, 17), .inl ytop, .inl (0, 1)]),
  .inr (.inl (0, [(16, ytop)])),
  .inr (.inl (0, [(16, ytop)])),
  .inr (.inl (0, [(16, ytop)])),
  .inl (3, [.inr (.inr [66]), .inr (.inr [67]), .inr (.inr [68]), ylong, .inl (0, 17), .inl ytop, .inl (0, 1)]),
  .inr (.inl (0, [(16, ytop)])),
  .inr (.inl (0, [(16, ytop)])),
  .inr (.inl (0, [(16, ytop)])),
  .inl (3, [.inr (.inr [70]), .inr (.inr [71]), .inr (.inr [72]), ylong, .inl (0, 17), .inl ytop, .inl (0, 1)]),
  .inr (.inl (0, [(16, ytop)])),
  .inr (.inl (0, [(16, ytop)])),
  .inr (.inl (0, [(16, ytop)])),
  .inl (3, [.inr (.inr [74]), .inr (.inr [75]), .inr (.inr [76]), ylong, .inl (0, 17), .inl ytop, .inl (0, 1)]),
  .inr (.inl (0, [(16, ytop)])),
  .inr (.inl (0, [(16, ytop)])),
  .inr (.inl (0, [(16, ytop)])),
  .inl (3, [.inr (.inr [78]), .inr (.inr [79]), .inr (.inr [80]), ylong, .inl (0, 17), .inl ytop, .inl (0, 1)]),
  .inr (.inl (0, [(16, ytop)])),
  .inr (.inl (0, [(16, ytop)])),
  .inr (.inl (0, [(16, ytop)])),
  .inl (3, [.inr (.inr [82]), .inr (.inr [83]), .inr (.inr [84]), ylong, .inl (0, 17), .inl ytop, .inl (0, 1)]),
  .inr (.inl (0, [(16, ytop)])),
  .inr (.inl (0, [(16, ytop)])),
  .inr (.inl (0, [(16, ytop)])),
  .inl (3, [.inr (.inr [86]), .inr (.inr [87]), .inr (.inr [88]), ylong, .inl (0, 17), .inl ytop, .inl (0, 1)]),
  .inr (.inl (0, [(16, ytop)])),
  .inr (.inl (0, [(16, ytop)])),
  .inr (.inl (0, [(16, ytop)])),
  .inl (3, [.inr (.inr [90]), .inr (.inr [91]), .inr (.inr [92]), ylong, .inl (0, 17), .inl ytop, .inl (0, 1)]),
  .inr (.inl (0, [(16, ytop)])),
  .inr (.inl (0, [(16, ytop)])),
  .inr (.inl (0, [(16, ytop)])),
  .inl (3, [.inr (.inr [94]), .inr (.inr [95]), .inr (.inr [96]), ylong, .inl (0, 17), .inl ytop, .inl (0, 1)]),
  .inr (.inl (0, [(16, ytop)])),
  .inr (.inl (0, [(16, ytop)])),
  .inr (.inl (0, [(16, ytop)])),
  .inl (3, [.inr (.inr [98]), .inr (.inr [99]), .inr (.inr [100]), ylong, .inl (0, 17), .inl ytop, .inl (0, 1)]),
  .inr (.inl (0, [(16, ytop)])),
  .inr (.inl (0, [(16, ytop)])),
  .inr (.inl (0, [(16, ytop)])),
  .inl (3, [.inr (.inr [102]), .inr (.inr [103]), .inr (.inr [104]), ylong, .inl (0, 17), .inl ytop, .inl (0, 1)]),
  .inr (.inl (0, [(16, ytop)])),
  .inr (.inl (0, [(16, ytop)])),
  .inr (.inl (0, [(16, ytop)])),
  .inl (3, [.inr (.inr [106]), .inr (.inr [107]), .inr (.inr [108]), ylong, .inl (0, 17), .inl ytop, .inl (0, 1)]),
  .inr (.inl (0, [(16, ytop)])),
  .inr (.inl (0, [(16, ytop)])),
  .inr (.inl (0, [(16, ytop)])),
  .inl (4, [.inr (.inr [51]), .inr (.inr [53]), .inr (.inr [112]), .inr (.inr [110]), .inr (.inr [111]), .inr (.inr [57, 61, 65, 69, 73, 77, 81, 85, 89, 93, 97, 101, 105]), .inl ytop, .inl ytop, .inl ytop, .inl ytop]),
  .inr (.inl (0, [(3, 0, 4)])),
  .inr (.inl (0, [(3, 0, 17)])),
  .inl (5, [.inr (.inr [51]), .inl ytop, .inl ytop, .inl ytop, ylong, .inl ytop, .inl ytop]),
  .inl (6, [.inr (.inr [53]), .inr (.inr [114]), .inr (.inr [116])]),
  .inl (7, [.inr (.inr [115])]),
  .inr (.inl (0, [(8, ytop)])),
  .inr (.inl (0, [(8, 0, 6)])),
  .inl (8, [.inr (.inr [53]), .inr (.inr [113]), .inr (.inr [118]), .inr (.inr [119]), .inr (.inr [120]), .inr (.inr [121]), .inl (0, 156), .inl (0, 4)]),
  .inr (.inl (0, [(1248, 0, 399)])),
  .inr (.inl (0, [(156, 0, 155)])),
  .inr (.inl (0, [(156, 0, 11)])),
  .inr (.inl (0, [(4, 0, 11)])),
  .inr (.inr (.inr (9, [[123], [125], [127], [129], [131], [133], [135], [137], [139], [141], [143], [145], [147], [149], [151], [153], [155], [157], [159], [161], [163], [165], [167], [169]]))),
  .inl (9, [.inr (.inr [124]), .inl (0, 16)]),
  .inr (.inl (0, [(136, 0, 399)])),
  .inl (9, [.inr (.inr [126]), .inl (0, 16)]),
  .inr (.inl (0, [(136, 0, 399)])),
  .inl (9, [.inr (.inr [128]), .inl (0, 16)]),
  .inr (.inl (0, [(136, 0, 399)])),
  .inl (9, [.inr (.inr [130]), .inl (0, 16)]),
  .inr (.inl (0, [(136, 0, 399)])),
  .inl (9, [.inr (.inr [132]), .inl (0, 16)]),
  .inr (.inl (0, [(136, 0, 399)])),
  .inl (9, [.inr (.inr [134]), .inl (0, 16)]),
  .inr (.inl (0, [(136, 0, 399)])),
  .inl (9, [.inr (.inr [136]), .inl (0, 16)]),
  .inr (.inl (0, [(136, 0, 399)])),
  .inl (9, [.inr (.inr [138]), .inl (0, 16)]),
  .inr (.inl (0, [(136, 0, 399)])),
  .inl (9, [.inr (.inr [140]), .inl (0, 16)]),
  .inr (.inl (0, [(136, 0, 399)])),
  .inl (9, [.inr (.inr [142]), .inl (0, 16)]),
  .inr (.inl (0, [(136, 0, 399)])),
  .inl (9, [.inr (.inr [144]), .inl (0, 16)]),
  .inr (.inl (0, [(136, 0, 399)])),
  .inl (9, [.inr (.inr [146]), .inl (0, 16)]),
  .inr (.inl (0, [(136, 0, 399)])),
  .inl (9, [.inr (.inr [148]), .inl (0, 16)]),
  .inr (.inl (0, [(136, 0, 399)])),
  .inl (9, [.inr (.inr [150]), .inl (0, 16)]),
  .inr (.inl (0, [(136, 0, 399)])),
  .inl (9, [.inr (.inr [152]), .inl (0, 16)]),
  .inr (.inl (0, [(136, 0, 399)])),
  .inl (9, [.inr (.inr [154]), .inl (0, 16)]),
  .inr (.inl (0, [(136, 0, 399)])),
  .inl (9, [.inr (.inr [156]), .inl (0, 16)]),
  .inr (.inl (0, [(136, 0, 399)])),
  .inl (9, [.inr (.inr [158]), .inl (0, 16)]),
  .inr (.inl (0, [(136, 0, 399)])),
  .inl (9, [.inr (.inr [160]), .inl (0, 16)]),
  .inr (.inl (0, [(136, 0, 399)])),
  .inl (9, [.inr (.inr [162]), .inl (0, 16)]),
  .inr (.inl (0, [(136, 0, 399)])),
  .inl (9, [.inr (.inr [164]), .inl (0, 16)]),
  .inr (.inl (0, [(136, 0, 399)])),
  .inl (9, [.inr (.inr [166]), .inl (0, 16)]),
  .inr (.inl (0, [(136, 0, 399)])),
  .inl (9, [.inr (.inr [168]), .inl (0, 16)]),
  .inr (.inl (0, [(136, 0, 399)])),
  .inl (9, [.inr (.inr [170]), .inl (0, 16)]),
  .inr (.inl (0, [(136, 0, 399)])),
  .inl (9, [.inr (.inr [172]), .inl (0, 16)]),
  .inr (.inl (0, [(136, 0, 399)])),
  .inl (9, [.inr (.inr [174]), .inl (0, 16)]),
  .inr (.inl (0, [(136, 0, 399)])),
  .inr (.inl (0, [(8, 0, 399)])),
  .inr (.inl (0, [(8, 0, 399)])),
  .inl (10, [.inl ytop, .inl (0, 100), .inr (.inr [178]), .inl ytop, .inl ytop, .inl ytop, .inl ytop, ylong, .inl ytop, .inl (0, 12), .inr (.inr [179]), .inr (.inr [180]), .inr (.inr [181]), .inr (.inr [182]), .inr (.inr [183]), .inr (.inr [184]), .inl ytop, .inr (.inr [185]), .inr (.inr [186]), .inl ytop, .inr (.inr [187]), .inr (.inr [188]), .inr (.inr [189]), .inr (.inr [190]), .inr (.inr [191]), .inr (.inr [192]), .inr (.inr [193]), .inr (.inr [194]), .inl ytop, .inl ytop, .inl ytop, .inl (0, 24), .inr (.inr [195]), .inr (.inr [196]), .inr (.inr [197]), .inr (.inr [198]), .inl (-1, 4), .inr (.inr [199]), .inr (.inr [200]), .inr (.inr [201]), .inr (.inr [202])]),
  .inr (.inl (1, [(100, 0, 65535)])),
  .inr (.inr (.inl 13)),
  .inr (.inl (0, [(12, 0, 16), (1, ytop)])),
  .inr (.inl (0, [(13, ytop)])),
  .inr (.inl (0, [(192, 0, 16), (16, ytop)])),
  .inr (.inl (0, [(192, 0, 224), (16, ytop)])),
  .inr (.inl (0, [(192, 0, 224), (16, ytop)])),
  .inr (.inl (0, [(224, 0, 12)])),
  .inr (.inl (0, [(224, 0, 6)])),
  .inr (.inl (0, [(3, ytop)])),
  .inr (.inl (0, [(3, ytop)])),
  .inr (.inl (0, [(8, ytop)])),
  .inr (.inl (0, [(8, ytop)])),
  .inr (.inl (0, [(8, ytop)])),
  .inr (.inl (0, [(144, ytop)])),
  .inr (.inl (0, [(144, ytop)])),
  .inr (.inl (0, [(144, ytop)])),
  .inr (.inl (0, [(24, 0, 11)])),
  .inr (.inl (2, [(24, 0, 1)])),
  .inr (.inl (0, [(192, ytop)])),
  .inr (.inl (2, [(12, 0, 1)])),
  .inr (.inl (0, [(4, ytop)])),
  .inr (.inl (0, [(5, -1, 11)])),
  .inr (.inl (0, [(40, ytop)])),
  .inr (.inl (0, [(8, ytop)])),
  .inr (.inr (.inl 1))]
/-- one figure is settled and has n beats -/
def yfg (f : Nat) (n : Int × Int) : yC := .inl (3, [.inr (.inr [58 + 4 * f]), .inr (.inr [59 + 4 * f]), .inr (.inr [60 + 4 * f]), ylong, .inl n, .inl ytop, .inl (0, 1)])
def yTf (f : Nat) (n : Int × Int) : List yC := (((yT.set (8 + 4 * f) (.inr (.inl (0, [(16, 0, 208)])))).set (9 + 4 * f) (.inr (.inl (0, [(16, 0, 208)])))).set (10 + 4 * f) (.inr (.inl (0, [(16, 0, 16)])))).set (7 + 4 * f) (yfg f n)
/-- the model's call c has n beats -/
def yTm (c : Nat) (n : Int × Int) : List yC := yT.set 130 (.inr (.inl (0, [(c, 0, 16), (1, n), (11 - c, 0, 16), (1, ytop)])))
/-! The types while c calls are kept: their figures are settled. -/
def yTz : List yC := [.inl (4, [.inr (.inr [51]), .inr (.inr [53]), .inr (.inr [112]), .inr (.inr [110]), .inr (.inr [111]), .inr (.inr [57, 61, 65, 69, 73, 77, 81, 85, 89, 93, 97, 101, 105]), .inl ytop, .inl ytop, .inl ytop, .inl ytop]),
  .inr (.inl (0, [(3, 0, 4)])),
  .inr (.inl (0, [(3, 0, 17)])),
  .inl (5, [.inr (.inr [51]), .inl ytop, .inl ytop, .inl ytop, ylong, .inl ytop, .inl ytop]),
  .inl (6, [.inr (.inr [53]), .inr (.inr [114]), .inr (.inr [116])]),
  .inl (7, [.inr (.inr [115])]),
  .inr (.inl (0, [(8, ytop)])),
  .inr (.inl (0, [(8, 0, 6)])),
  .inl (8, [.inr (.inr [53]), .inr (.inr [113]), .inr (.inr [118]), .inr (.inr [119]), .inr (.inr [120]), .inr (.inr [121]), .inl (0, 156), .inl (0, 4)]),
  .inr (.inl (0, [(1248, 0, 399)])),
  .inr (.inl (0, [(156, 0, 155)])),
  .inr (.inl (0, [(156, 0, 11)])),
  .inr (.inl (0, [(4, 0, 11)])),
  .inr (.inr (.inr (9, [[123], [125], [127], [129], [131], [133], [135], [137], [139], [141], [143], [145], [147], [149], [151], [153], [155], [157], [159], [161], [163], [165], [167], [169]]))),
  .inl (9, [.inr (.inr [124]), .inl (0, 16)]),
  .inr (.inl (0, [(136, 0, 399)])),
  .inl (9, [.inr (.inr [126]), .inl (0, 16)]),
  .inr (.inl (0, [(136, 0, 399)])),
  .inl (9, [.inr (.inr [128]), .inl (0, 16)]),
  .inr (.inl (0, [(136, 0, 399)])),
  .inl (9, [.inr (.inr [130]), .inl (0, 16)]),
  .inr (.inl (0, [(136, 0, 399)])),
  .inl (9, [.inr (.inr [132]), .inl (0, 16)]),
  .inr (.inl (0, [(136, 0, 399)])),
  .inl (9, [.inr (.inr [134]), .inl (0, 16)]),
  .inr (.inl (0, [(136, 0, 399)])),
  .inl (9, [.inr (.inr [136]), .inl (0, 16)]),
  .inr (.inl (0, [(136, 0, 399)])),
  .inl (9, [.inr (.inr [138]), .inl (0, 16)]),
  .inr (.inl (0, [(136, 0, 399)])),
  .inl (9, [.inr (.inr [140]), .inl (0, 16)]),
  .inr (.inl (0, [(136, 0, 399)])),
  .inl (9, [.inr (.inr [142]), .inl (0, 16)]),
  .inr (.inl (0, [(136, 0, 399)])),
  .inl (9, [.inr (.inr [144]), .inl (0, 16)]),
  .inr (.inl (0, [(136, 0, 399)])),
  .inl (9, [.inr (.inr [146]), .inl (0, 16)]),
  .inr (.inl (0, [(136, 0, 399)])),
  .inl (9, [.inr (.inr [148]), .inl (0, 16)]),
  .inr (.inl (0, [(136, 0, 399)])),
  .inl (9, [.inr (.inr [150]), .inl (0, 16)]),
  .inr (.inl (0, [(136, 0, 399)])),
  .inl (9, [.inr (.inr [152]), .inl (0, 16)]),
  .inr (.inl (0, [(136, 0, 399)])),
  .inl (9, [.inr (.inr [154]), .inl (0, 16)]),
  .inr (.inl (0, [(136, 0, 399)])),
  .inl (9, [.inr (.inr [156]), .inl (0, 16)]),
  .inr (.inl (0, [(136, 0, 399)])),
  .inl (9, [.inr (.inr [158]), .inl (0, 16)]),
  .inr (.inl (0, [(136, 0, 399)])),
  .inl (9, [.inr (.inr [160]), .inl (0, 16)]),
  .inr (.inl (0, [(136, 0, 399)])),
  .inl (9, [.inr (.inr [162]), .inl (0, 16)]),
  .inr (.inl (0, [(136, 0, 399)])),
  .inl (9, [.inr (.inr [164]), .inl (0, 16)]),
  .inr (.inl (0, [(136, 0, 399)])),
  .inl (9, [.inr (.inr [166]), .inl (0, 16)]),
  .inr (.inl (0, [(136, 0, 399)])),
  .inl (9, [.inr (.inr [168]), .inl (0, 16)]),
  .inr (.inl (0, [(136, 0, 399)])),
  .inl (9, [.inr (.inr [170]), .inl (0, 16)]),
  .inr (.inl (0, [(136, 0, 399)])),
  .inl (9, [.inr (.inr [172]), .inl (0, 16)]),
  .inr (.inl (0, [(136, 0, 399)])),
  .inl (9, [.inr (.inr [174]), .inl (0, 16)]),
  .inr (.inl (0, [(136, 0, 399)])),
  .inr (.inl (0, [(8, 0, 399)])),
  .inr (.inl (0, [(8, 0, 399)])),
  .inl (10, [.inl ytop, .inl (0, 100), .inr (.inr [178]), .inl ytop, .inl ytop, .inl ytop, .inl ytop, ylong, .inl ytop, .inl (0, 12), .inr (.inr [179]), .inr (.inr [180]), .inr (.inr [181]), .inr (.inr [182]), .inr (.inr [183]), .inr (.inr [184]), .inl ytop, .inr (.inr [185]), .inr (.inr [186]), .inl ytop, .inr (.inr [187]), .inr (.inr [188]), .inr (.inr [189]), .inr (.inr [190]), .inr (.inr [191]), .inr (.inr [192]), .inr (.inr [193]), .inr (.inr [194]), .inl ytop, .inl ytop, .inl ytop, .inl (0, 24), .inr (.inr [195]), .inr (.inr [196]), .inr (.inr [197]), .inr (.inr [198]), .inl (-1, 4), .inr (.inr [199]), .inr (.inr [200]), .inr (.inr [201]), .inr (.inr [202])]),
  .inr (.inl (1, [(100, 0, 65535)])),
  .inr (.inr (.inl 13)),
  .inr (.inl (0, [(12, 0, 16), (1, ytop)])),
  .inr (.inl (0, [(13, ytop)])),
  .inr (.inl (0, [(192, 0, 16), (16, ytop)])),
  .inr (.inl (0, [(192, 0, 224), (16, ytop)])),
  .inr (.inl (0, [(192, 0, 224), (16, ytop)])),
  .inr (.inl (0, [(224, 0, 12)])),
  .inr (.inl (0, [(224, 0, 6)])),
  .inr (.inl (0, [(3, ytop)])),
  .inr (.inl (0, [(3, ytop)])),
  .inr (.inl (0, [(8, ytop)])),
  .inr (.inl (0, [(8, ytop)])),
  .inr (.inl (0, [(8, ytop)])),
  .inr (.inl (0, [(144, ytop)])),
  .inr (.inl (0, [(144, ytop)])),
  .inr (.inl (0, [(144, ytop)])),
  .inr (.inl (0, [(24, 0, 11)])),
  .inr (.inl (2, [(24, 0, 1)])),
  .inr (.inl (0, [(192, ytop)])),
  .inr (.inl (2, [(12, 0, 1)])),
  .inr (.inl (0, [(4, ytop)])),
  .inr (.inl (0, [(5, -1, 11)])),
  .inr (.inl (0, [(40, ytop)])),
  .inr (.inl (0, [(8, ytop)])),
  .inr (.inr (.inl 1))]
def yTk0 : List yC := [.inl (0, [.inr (.inr [51]), .inr (.inr [53]), .inr (.inr [109]), .inr (.inr [113]), .inr (.inr [117]), .inr (.inr [122]), .inr (.inr [171]), .inr (.inr [173]), .inr (.inr [175]), .inr (.inr [176]), .inl (0, 24), .inl ytop, .inl ytop]), .inl (1, [.inr (.inr [52]), .inl (0, 100)]), .inr (.inl (1, [(100, 0, 65535)])), .inl (2, [.inr (.inr [54]), .inr (.inr [55]), .inr (.inr [56]), .inl (0, 0), .inl (0, 208), .inl (0, 208)]), .inr (.inr (.inr (3, [[57], [61], [65], [69], [73], [77], [81], [85], [89], [93], [97], [101], [105]]))), .inr (.inl (0, [(208, 0, 12)])), .inr (.inl (0, [(208, 0, 6)])), .inl (3, [.inr (.inr [58]), .inr (.inr [59]), .inr (.inr [60]), ylong, .inl (0, 17), .inl ytop, .inl (0, 1)]), .inr (.inl (0, [(16, ytop)])), .inr (.inl (0, [(16, ytop)])), .inr (.inl (0, [(16, ytop)])), .inl (3, [.inr (.inr [62]), .inr (.inr [63]), .inr (.inr [64]), ylong, .inl (0, 17), .inl ytop, .inl (0, 1)]), .inr (.inl (0, [(16, ytop)])), .inr (.inl (0, [(16, ytop)])), .inr (.inl (0, [(16, ytop)])), .inl (3, [.inr (.inr [66]), .inr (.inr [67]), .inr (.inr [68]), ylong, .inl (0, 17), .inl ytop, .inl (0, 1)]), .inr (.inl (0, [(16, ytop)])), .inr (.inl (0, [(16, ytop)])), .inr (.inl (0, [(16, ytop)])), .inl (3, [.inr (.inr [70]), .inr (.inr [71]), .inr (.inr [72]), ylong, .inl (0, 17), .inl ytop, .inl (0, 1)]), .inr (.inl (0, [(16, ytop)])), .inr (.inl (0, [(16, ytop)])), .inr (.inl (0, [(16, ytop)])), .inl (3, [.inr (.inr [74]), .inr (.inr [75]), .inr (.inr [76]), ylong, .inl (0, 17), .inl ytop, .inl (0, 1)]), .inr (.inl (0, [(16, ytop)])), .inr (.inl (0, [(16, ytop)])), .inr (.inl (0, [(16, ytop)])), .inl (3, [.inr (.inr [78]), .inr (.inr [79]), .inr (.inr [80]), ylong, .inl (0, 17), .inl ytop, .inl (0, 1)]), .inr (.inl (0, [(16, ytop)])), .inr (.inl (0, [(16, ytop)])), .inr (.inl (0, [(16, ytop)])), .inl (3, [.inr (.inr [82]), .inr (.inr [83]), .inr (.inr [84]), ylong, .inl (0, 17), .inl ytop, .inl (0, 1)]), .inr (.inl (0, [(16, ytop)])), .inr (.inl (0, [(16, ytop)])), .inr (.inl (0, [(16, ytop)])), .inl (3, [.inr (.inr [86]), .inr (.inr [87]), .inr (.inr [88]), ylong, .inl (0, 17), .inl ytop, .inl (0, 1)]), .inr (.inl (0, [(16, ytop)])), .inr (.inl (0, [(16, ytop)])), .inr (.inl (0, [(16, ytop)])), .inl (3, [.inr (.inr [90]), .inr (.inr [91]), .inr (.inr [92]), ylong, .inl (0, 17), .inl ytop, .inl (0, 1)]), .inr (.inl (0, [(16, ytop)])), .inr (.inl (0, [(16, ytop)])), .inr (.inl (0, [(16, ytop)])), .inl (3, [.inr (.inr [94]), .inr (.inr [95]), .inr (.inr [96]), ylong, .inl (0, 17), .inl ytop, .inl (0, 1)]), .inr (.inl (0, [(16, ytop)])), .inr (.inl (0, [(16, ytop)])), .inr (.inl (0, [(16, ytop)])), .inl (3, [.inr (.inr [98]), .inr (.inr [99]), .inr (.inr [100]), ylong, .inl (0, 17), .inl ytop, .inl (0, 1)]), .inr (.inl (0, [(16, ytop)])), .inr (.inl (0, [(16, ytop)])), .inr (.inl (0, [(16, ytop)])), .inl (3, [.inr (.inr [102]), .inr (.inr [103]), .inr (.inr [104]), ylong, .inl (0, 17), .inl ytop, .inl (0, 1)]), .inr (.inl (0, [(16, ytop)])), .inr (.inl (0, [(16, ytop)])), .inr (.inl (0, [(16, ytop)])), .inl (3, [.inr (.inr [106]), .inr (.inr [107]), .inr (.inr [108]), ylong, .inl (0, 17), .inl ytop, .inl (0, 1)]), .inr (.inl (0, [(16, ytop)])), .inr (.inl (0, [(16, ytop)])), .inr (.inl (0, [(16, ytop)]))]
def yTk1 : List yC := [.inl (0, [.inr (.inr [51]), .inr (.inr [53]), .inr (.inr [109]), .inr (.inr [113]), .inr (.inr [117]), .inr (.inr [122]), .inr (.inr [171]), .inr (.inr [173]), .inr (.inr [175]), .inr (.inr [176]), .inl (0, 24), .inl ytop, .inl ytop]), .inl (1, [.inr (.inr [52]), .inl (0, 100)]), .inr (.inl (1, [(100, 0, 65535)])), .inl (2, [.inr (.inr [54]), .inr (.inr [55]), .inr (.inr [56]), .inl (1, 1), .inl (0, 208), .inl (0, 208)]), .inr (.inr (.inr (3, [[57], [61], [65], [69], [73], [77], [81], [85], [89], [93], [97], [101], [105]]))), .inr (.inl (0, [(208, 0, 12)])), .inr (.inl (0, [(208, 0, 6)])), .inl (3, [.inr (.inr [58]), .inr (.inr [59]), .inr (.inr [60]), ylong, .inl (0, 16), .inl ytop, .inl (0, 1)]), .inr (.inl (0, [(16, 0, 208)])), .inr (.inl (0, [(16, 0, 208)])), .inr (.inl (0, [(16, 0, 16)])), .inl (3, [.inr (.inr [62]), .inr (.inr [63]), .inr (.inr [64]), ylong, .inl (0, 17), .inl ytop, .inl (0, 1)]), .inr (.inl (0, [(16, ytop)])), .inr (.inl (0, [(16, ytop)])), .inr (.inl (0, [(16, ytop)])), .inl (3, [.inr (.inr [66]), .inr (.inr [67]), .inr (.inr [68]), ylong, .inl (0, 17), .inl ytop, .inl (0, 1)]), .inr (.inl (0, [(16, ytop)])), .inr (.inl (0, [(16, ytop)])), .inr (.inl (0, [(16, ytop)])), .inl (3, [.inr (.inr [70]), .inr (.inr [71]), .inr (.inr [72]), ylong, .inl (0, 17), .inl ytop, .inl (0, 1)]), .inr (.inl (0, [(16, ytop)])), .inr (.inl (0, [(16, ytop)])), .inr (.inl (0, [(16, ytop)])), .inl (3, [.inr (.inr [74]), .inr (.inr [75]), .inr (.inr [76]), ylong, .inl (0, 17), .inl ytop, .inl (0, 1)]), .inr (.inl (0, [(16, ytop)])), .inr (.inl (0, [(16, ytop)])), .inr (.inl (0, [(16, ytop)])), .inl (3, [.inr (.inr [78]), .inr (.inr [79]), .inr (.inr [80]), ylong, .inl (0, 17), .inl ytop, .inl (0, 1)]), .inr (.inl (0, [(16, ytop)])), .inr (.inl (0, [(16, ytop)])), .inr (.inl (0, [(16, ytop)])), .inl (3, [.inr (.inr [82]), .inr (.inr [83]), .inr (.inr [84]), ylong, .inl (0, 17), .inl ytop, .inl (0, 1)]), .inr (.inl (0, [(16, ytop)])), .inr (.inl (0, [(16, ytop)])), .inr (.inl (0, [(16, ytop)])), .inl (3, [.inr (.inr [86]), .inr (.inr [87]), .inr (.inr [88]), ylong, .inl (0, 17), .inl ytop, .inl (0, 1)]), .inr (.inl (0, [(16, ytop)])), .inr (.inl (0, [(16, ytop)])), .inr (.inl (0, [(16, ytop)])), .inl (3, [.inr (.inr [90]), .inr (.inr [91]), .inr (.inr [92]), ylong, .inl (0, 17), .inl ytop, .inl (0, 1)]), .inr (.inl (0, [(16, ytop)])), .inr (.inl (0, [(16, ytop)])), .inr (.inl (0, [(16, ytop)])), .inl (3, [.inr (.inr [94]), .inr (.inr [95]), .inr (.inr [96]), ylong, .inl (0, 17), .inl ytop, .inl (0, 1)]), .inr (.inl (0, [(16, ytop)])), .inr (.inl (0, [(16, ytop)])), .inr (.inl (0, [(16, ytop)])), .inl (3, [.inr (.inr [98]), .inr (.inr [99]), .inr (.inr [100]), ylong, .inl (0, 17), .inl ytop, .inl (0, 1)]), .inr (.inl (0, [(16, ytop)])), .inr (.inl (0, [(16, ytop)])), .inr (.inl (0, [(16, ytop)])), .inl (3, [.inr (.inr [102]), .inr (.inr [103]), .inr (.inr [104]), ylong, .inl (0, 17), .inl ytop, .inl (0, 1)]), .inr (.inl (0, [(16, ytop)])), .inr (.inl (0, [(16, ytop)])), .inr (.inl (0, [(16, ytop)])), .inl (3, [.inr (.inr [106]), .inr (.inr [107]), .inr (.inr [108]), ylong, .inl (0, 17), .inl ytop, .inl (0, 1)]), .inr (.inl (0, [(16, ytop)])), .inr (.inl (0, [(16, ytop)])), .inr (.inl (0, [(16, ytop)]))]
def yTk2 : List yC := [.inl (0, [.inr (.inr [51]), .inr (.inr [53]), .inr (.inr [109]), .inr (.inr [113]), .inr (.inr [117]), .inr (.inr [122]), .inr (.inr [171]), .inr (.inr [173]), .inr (.inr [175]), .inr (.inr [176]), .inl (0, 24), .inl ytop, .inl ytop]), .inl (1, [.inr (.inr [52]), .inl (0, 100)]), .inr (.inl (1, [(100, 0, 65535)])), .inl (2, [.inr (.inr [54]), .inr (.inr [55]), .inr (.inr [56]), .inl (2, 2), .inl (0, 208), .inl (0, 208)]), .inr (.inr (.inr (3, [[57], [61], [65], [69], [73], [77], [81], [85], [89], [93], [97], [101], [105]]))), .inr (.inl (0, [(208, 0, 12)])), .inr (.inl (0, [(208, 0, 6)])), .inl (3, [.inr (.inr [58]), .inr (.inr [59]), .inr (.inr [60]), ylong, .inl (0, 16), .inl ytop, .inl (0, 1)]), .inr (.inl (0, [(16, 0, 208)])), .inr (.inl (0, [(16, 0, 208)])), .inr (.inl (0, [(16, 0, 16)])), .inl (3, [.inr (.inr [62]), .inr (.inr [63]), .inr (.inr [64]), ylong, .inl (0, 16), .inl ytop, .inl (0, 1)]), .inr (.inl (0, [(16, 0, 208)])), .inr (.inl (0, [(16, 0, 208)])), .inr (.inl (0, [(16, 0, 16)])), .inl (3, [.inr (.inr [66]), .inr (.inr [67]), .inr (.inr [68]), ylong, .inl (0, 17), .inl ytop, .inl (0, 1)]), .inr (.inl (0, [(16, ytop)])), .inr (.inl (0, [(16, ytop)])), .inr (.inl (0, [(16, ytop)])), .inl (3, [.inr (.inr [70]), .inr (.inr [71]), .inr (.inr [72]), ylong, .inl (0, 17), .inl ytop, .inl (0, 1)]), .inr (.inl (0, [(16, ytop)])), .inr (.inl (0, [(16, ytop)])), .inr (.inl (0, [(16, ytop)])), .inl (3, [.inr (.inr [74]), .inr (.inr [75]), .inr (.inr [76]), ylong, .inl (0, 17), .inl ytop, .inl (0, 1)]), .inr (.inl (0, [(16, ytop)])), .inr (.inl (0, [(16, ytop)])), .inr (.inl (0, [(16, ytop)])), .inl (3, [.inr (.inr [78]), .inr (.inr [79]), .inr (.inr [80]), ylong, .inl (0, 17), .inl ytop, .inl (0, 1)]), .inr (.inl (0, [(16, ytop)])), .inr (.inl (0, [(16, ytop)])), .inr (.inl (0, [(16, ytop)])), .inl (3, [.inr (.inr [82]), .inr (.inr [83]), .inr (.inr [84]), ylong, .inl (0, 17), .inl ytop, .inl (0, 1)]), .inr (.inl (0, [(16, ytop)])), .inr (.inl (0, [(16, ytop)])), .inr (.inl (0, [(16, ytop)])), .inl (3, [.inr (.inr [86]), .inr (.inr [87]), .inr (.inr [88]), ylong, .inl (0, 17), .inl ytop, .inl (0, 1)]), .inr (.inl (0, [(16, ytop)])), .inr (.inl (0, [(16, ytop)])), .inr (.inl (0, [(16, ytop)])), .inl (3, [.inr (.inr [90]), .inr (.inr [91]), .inr (.inr [92]), ylong, .inl (0, 17), .inl ytop, .inl (0, 1)]), .inr (.inl (0, [(16, ytop)])), .inr (.inl (0, [(16, ytop)])), .inr (.inl (0, [(16, ytop)])), .inl (3, [.inr (.inr [94]), .inr (.inr [95]), .inr (.inr [96]), ylong, .inl (0, 17), .inl ytop, .inl (0, 1)]), .inr (.inl (0, [(16, ytop)])), .inr (.inl (0, [(16, ytop)])), .inr (.inl (0, [(16, ytop)])), .inl (3, [.inr (.inr [98]), .inr (.inr [99]), .inr (.inr [100]), ylong, .inl (0, 17), .inl ytop, .inl (0, 1)]), .inr (.inl (0, [(16, ytop)])), .inr (.inl (0, [(16, ytop)])), .inr (.inl (0, [(16, ytop)])), .inl (3, [.inr (.inr [102]), .inr (.inr [103]), .inr (.inr [104]), ylong, .inl (0, 17), .inl ytop, .inl (0, 1)]), .inr (.inl (0, [(16, ytop)])), .inr (.inl (0, [(16, ytop)])), .inr (.inl (0, [(16, ytop)])), .inl (3, [.inr (.inr [106]), .inr (.inr [107]), .inr (.inr [108]), ylong, .inl (0, 17), .inl ytop, .inl (0, 1)]), .inr (.inl (0, [(16, ytop)])), .inr (.inl (0, [(16, ytop)])), .inr (.inl (0, [(16, ytop)]))]
def yTk3 : List yC := [.inl (0, [.inr (.inr [51]), .inr (.inr [53]), .inr (.inr [109]), .inr (.inr [113]), .inr (.inr [117]), .inr (.inr [122]), .inr (.inr [171]), .inr (.inr [173]), .inr (.inr [175]), .inr (.inr [176]), .inl (0, 24), .inl ytop, .inl ytop]), .inl (1, [.inr (.inr [52]), .inl (0, 100)]), .inr (.inl (1, [(100, 0, 65535)])), .inl (2, [.inr (.inr [54]), .inr (.inr [55]), .inr (.inr [56]), .inl (3, 3), .inl (0, 208), .inl (0, 208)]), .inr (.inr (.inr (3, [[57], [61], [65], [69], [73], [77], [81], [85], [89], [93], [97], [101], [105]]))), .inr (.inl (0, [(208, 0, 12)])), .inr (.inl (0, [(208, 0, 6)])), .inl (3, [.inr (.inr [58]), .inr (.inr [59]), .inr (.inr [60]), ylong, .inl (0, 16), .inl ytop, .inl (0, 1)]), .inr (.inl (0, [(16, 0, 208)])), .inr (.inl (0, [(16, 0, 208)])), .inr (.inl (0, [(16, 0, 16)])), .inl (3, [.inr (.inr [62]), .inr (.inr [63]), .inr (.inr [64]), ylong, .inl (0, 16), .inl ytop, .inl (0, 1)]), .inr (.inl (0, [(16, 0, 208)])), .inr (.inl (0, [(16, 0, 208)])), .inr (.inl (0, [(16, 0, 16)])), .inl (3, [.inr (.inr [66]), .inr (.inr [67]), .inr (.inr [68]), ylong, .inl (0, 16), .inl ytop, .inl (0, 1)]), .inr (.inl (0, [(16, 0, 208)])), .inr (.inl (0, [(16, 0, 208)])), .inr (.inl (0, [(16, 0, 16)])), .inl (3, [.inr (.inr [70]), .inr (.inr [71]), .inr (.inr [72]), ylong, .inl (0, 17), .inl ytop, .inl (0, 1)]), .inr (.inl (0, [(16, ytop)])), .inr (.inl (0, [(16, ytop)])), .inr (.inl (0, [(16, ytop)])), .inl (3, [.inr (.inr [74]), .inr (.inr [75]), .inr (.inr [76]), ylong, .inl (0, 17), .inl ytop, .inl (0, 1)]), .inr (.inl (0, [(16, ytop)])), .inr (.inl (0, [(16, ytop)])), .inr (.inl (0, [(16, ytop)])), .inl (3, [.inr (.inr [78]), .inr (.inr [79]), .inr (.inr [80]), ylong, .inl (0, 17), .inl ytop, .inl (0, 1)]), .inr (.inl (0, [(16, ytop)])), .inr (.inl (0, [(16, ytop)])), .inr (.inl (0, [(16, ytop)])), .inl (3, [.inr (.inr [82]), .inr (.inr [83]), .inr (.inr [84]), ylong, .inl (0, 17), .inl ytop, .inl (0, 1)]), .inr (.inl (0, [(16, ytop)])), .inr (.inl (0, [(16, ytop)])), .inr (.inl (0, [(16, ytop)])), .inl (3, [.inr (.inr [86]), .inr (.inr [87]), .inr (.inr [88]), ylong, .inl (0, 17), .inl ytop, .inl (0, 1)]), .inr (.inl (0, [(16, ytop)])), .inr (.inl (0, [(16, ytop)])), .inr (.inl (0, [(16, ytop)])), .inl (3, [.inr (.inr [90]), .inr (.inr [91]), .inr (.inr [92]), ylong, .inl (0, 17), .inl ytop, .inl (0, 1)]), .inr (.inl (0, [(16, ytop)])), .inr (.inl (0, [(16, ytop)])), .inr (.inl (0, [(16, ytop)])), .inl (3, [.inr (.inr [94]), .inr (.inr [95]), .inr (.inr [96]), ylong, .inl (0, 17), .inl ytop, .inl (0, 1)]), .inr (.inl (0, [(16, ytop)])), .inr (.inl (0, [(16, ytop)])), .inr (.inl (0, [(16, ytop)])), .inl (3, [.inr (.inr [98]), .inr (.inr [99]), .inr (.inr [100]), ylong, .inl (0, 17), .inl ytop, .inl (0, 1)]), .inr (.inl (0, [(16, ytop)])), .inr (.inl (0, [(16, ytop)])), .inr (.inl (0, [(16, ytop)])), .inl (3, [.inr (.inr [102]), .inr (.inr [103]), .inr (.inr [104]), ylong, .inl (0, 17), .inl ytop, .inl (0, 1)]), .inr (.inl (0, [(16, ytop)])), .inr (.inl (0, [(16, ytop)])), .inr (.inl (0, [(16, ytop)])), .inl (3, [.inr (.inr [106]), .inr (.inr [107]), .inr (.inr [108]), ylong, .inl (0, 17), .inl ytop, .inl (0, 1)]), .inr (.inl (0, [(16, ytop)])), .inr (.inl (0, [(16, ytop)])), .inr (.inl (0, [(16, ytop)]))]
def yTk4 : List yC := [.inl (0, [.inr (.inr [51]), .inr (.inr [53]), .inr (.inr [109]), .inr (.inr [113]), .inr (.inr [117]), .inr (.inr [122]), .inr (.inr [171]), .inr (.inr [173]), .inr (.inr [175]), .inr (.inr [176]), .inl (0, 24), .inl ytop, .inl ytop]), .inl (1, [.inr (.inr [52]), .inl (0, 100)]), .inr (.inl (1, [(100, 0, 65535)])), .inl (2, [.inr (.inr [54]), .inr (.inr [55]), .inr (.inr [56]), .inl (4, 4), .inl (0, 208), .inl (0, 208)]), .inr (.inr (.inr (3, [[57], [61], [65], [69], [73], [77], [81], [85], [89], [93], [97], [101], [105]]))), .inr (.inl (0, [(208, 0, 12)])), .inr (.inl (0, [(208, 0, 6)])), .inl (3, [.inr (.inr [58]), .inr (.inr [59]), .inr (.inr [60]), ylong, .inl (0, 16), .inl ytop, .inl (0, 1)]), .inr (.inl (0, [(16, 0, 208)])), .inr (.inl (0, [(16, 0, 208)])), .inr (.inl (0, [(16, 0, 16)])), .inl (3, [.inr (.inr [62]), .inr (.inr [63]), .inr (.inr [64]), ylong, .inl (0, 16), .inl ytop, .inl (0, 1)]), .inr (.inl (0, [(16, 0, 208)])), .inr (.inl (0, [(16, 0, 208)])), .inr (.inl (0, [(16, 0, 16)])), .inl (3, [.inr (.inr [66]), .inr (.inr [67]), .inr (.inr [68]), ylong, .inl (0, 16), .inl ytop, .inl (0, 1)]), .inr (.inl (0, [(16, 0, 208)])), .inr (.inl (0, [(16, 0, 208)])), .inr (.inl (0, [(16, 0, 16)])), .inl (3, [.inr (.inr [70]), .inr (.inr [71]), .inr (.inr [72]), ylong, .inl (0, 16), .inl ytop, .inl (0, 1)]), .inr (.inl (0, [(16, 0, 208)])), .inr (.inl (0, [(16, 0, 208)])), .inr (.inl (0, [(16, 0, 16)])), .inl (3, [.inr (.inr [74]), .inr (.inr [75]), .inr (.inr [76]), ylong, .inl (0, 17), .inl ytop, .inl (0, 1)]), .inr (.inl (0, [(16, ytop)])), .inr (.inl (0, [(16, ytop)])), .inr (.inl (0, [(16, ytop)])), .inl (3, [.inr (.inr [78]), .inr (.inr [79]), .inr (.inr [80]), ylong, .inl (0, 17), .inl ytop, .inl (0, 1)]), .inr (.inl (0, [(16, ytop)])), .inr (.inl (0, [(16, ytop)])), .inr (.inl (0, [(16, ytop)])), .inl (3, [.inr (.inr [82]), .inr (.inr [83]), .inr (.inr [84]), ylong, .inl (0, 17), .inl ytop, .inl (0, 1)]), .inr (.inl (0, [(16, ytop)])), .inr (.inl (0, [(16, ytop)])), .inr (.inl (0, [(16, ytop)])), .inl (3, [.inr (.inr [86]), .inr (.inr [87]), .inr (.inr [88]), ylong, .inl (0, 17), .inl ytop, .inl (0, 1)]), .inr (.inl (0, [(16, ytop)])), .inr (.inl (0, [(16, ytop)])), .inr (.inl (0, [(16, ytop)])), .inl (3, [.inr (.inr [90]), .inr (.inr [91]), .inr (.inr [92]), ylong, .inl (0, 17), .inl ytop, .inl (0, 1)]), .inr (.inl (0, [(16, ytop)])), .inr (.inl (0, [(16, ytop)])), .inr (.inl (0, [(16, ytop)])), .inl (3, [.inr (.inr [94]), .inr (.inr [95]), .inr (.inr [96]), ylong, .inl (0, 17), .inl ytop, .inl (0, 1)]), .inr (.inl (0, [(16, ytop)])), .inr (.inl (0, [(16, ytop)])), .inr (.inl (0, [(16, ytop)])), .inl (3, [.inr (.inr [98]), .inr (.inr [99]), .inr (.inr [100]), ylong, .inl (0, 17), .inl ytop, .inl (0, 1)]), .inr (.inl (0, [(16, ytop)])), .inr (.inl (0, [(16, ytop)])), .inr (.inl (0, [(16, ytop)])), .inl (3, [.inr (.inr [102]), .inr (.inr [103]), .inr (.inr [104]), ylong, .inl (0, 17), .inl ytop, .inl (0, 1)]), .inr (.inl (0, [(16, ytop)])), .inr (.inl (0, [(16, ytop)])), .inr (.inl (0, [(16, ytop)])), .inl (3, [.inr (.inr [106]), .inr (.inr [107]), .inr (.inr [108]), ylong, .inl (0, 17), .inl ytop, .inl (0, 1)]), .inr (.inl (0, [(16, ytop)])), .inr (.inl (0, [(16, ytop)])), .inr (.inl (0, [(16, ytop)]))]
def yTk5 : List yC := [.inl (0, [.inr (.inr [51]), .inr (.inr [53]), .inr (.inr [109]), .inr (.inr [113]), .inr (.inr [117]), .inr (.inr [122]), .inr (.inr [171]), .inr (.inr [173]), .inr (.inr [175]), .inr (.inr [176]), .inl (0, 24), .inl ytop, .inl ytop]), .inl (1, [.inr (.inr [52]), .inl (0, 100)]), .inr (.inl (1, [(100, 0, 65535)])), .inl (2, [.inr (.inr [54]), .inr (.inr [55]), .inr (.inr [56]), .inl (5, 5), .inl (0, 208), .inl (0, 208)]), .inr (.inr (.inr (3, [[57], [61], [65], [69], [73], [77], [81], [85], [89], [93], [97], [101], [105]]))), .inr (.inl (0, [(208, 0, 12)])), .inr (.inl (0, [(208, 0, 6)])), .inl (3, [.inr (.inr [58]), .inr (.inr [59]), .inr (.inr [60]), ylong, .inl (0, 16), .inl ytop, .inl (0, 1)]), .inr (.inl (0, [(16, 0, 208)])), .inr (.inl (0, [(16, 0, 208)])), .inr (.inl (0, [(16, 0, 16)])), .inl (3, [.inr (.inr [62]), .inr (.inr [63]), .inr (.inr [64]), ylong, .inl (0, 16), .inl ytop, .inl (0, 1)]), .inr (.inl (0, [(16, 0, 208)])), .inr (.inl (0, [(16, 0, 208)])), .inr (.inl (0, [(16, 0, 16)])), .inl (3, [.inr (.inr [66]), .inr (.inr [67]), .inr (.inr [68]), ylong, .inl (0, 16), .inl ytop, .inl (0, 1)]), .inr (.inl (0, [(16, 0, 208)])), .inr (.inl (0, [(16, 0, 208)])), .inr (.inl (0, [(16, 0, 16)])), .inl (3, [.inr (.inr [70]), .inr (.inr [71]), .inr (.inr [72]), ylong, .inl (0, 16), .inl ytop, .inl (0, 1)]), .inr (.inl (0, [(16, 0, 208)])), .inr (.inl (0, [(16, 0, 208)])), .inr (.inl (0, [(16, 0, 16)])), .inl (3, [.inr (.inr [74]), .inr (.inr [75]), .inr (.inr [76]), ylong, .inl (0, 16), .inl ytop, .inl (0, 1)]), .inr (.inl (0, [(16, 0, 208)])), .inr (.inl (0, [(16, 0, 208)])), .inr (.inl (0, [(16, 0, 16)])), .inl (3, [.inr (.inr [78]), .inr (.inr [79]), .inr (.inr [80]), ylong, .inl (0, 17), .inl ytop, .inl (0, 1)]), .inr (.inl (0, [(16, ytop)])), .inr (.inl (0, [(16, ytop)])), .inr (.inl (0, [(16, ytop)])), .inl (3, [.inr (.inr [82]), .inr (.inr [83]), .inr (.inr [84]), ylong, .inl (0, 17), .inl ytop, .inl (0, 1)]), .inr (.inl (0, [(16, ytop)])), .inr (.inl (0, [(16, ytop)])), .inr (.inl (0, [(16, ytop)])), .inl (3, [.inr (.inr [86]), .inr (.inr [87]), .inr (.inr [88]), ylong, .inl (0, 17), .inl ytop, .inl (0, 1)]), .inr (.inl (0, [(16, ytop)])), .inr (.inl (0, [(16, ytop)])), .inr (.inl (0, [(16, ytop)])), .inl (3, [.inr (.inr [90]), .inr (.inr [91]), .inr (.inr [92]), ylong, .inl (0, 17), .inl ytop, .inl (0, 1)]), .inr (.inl (0, [(16, ytop)])), .inr (.inl (0, [(16, ytop)])), .inr (.inl (0, [(16, ytop)])), .inl (3, [.inr (.inr [94]), .inr (.inr [95]), .inr (.inr [96]), ylong, .inl (0, 17), .inl ytop, .inl (0, 1)]), .inr (.inl (0, [(16, ytop)])), .inr (.inl (0, [(16, ytop)])), .inr (.inl (0, [(16, ytop)])), .inl (3, [.inr (.inr [98]), .inr (.inr [99]), .inr (.inr [100]), ylong, .inl (0, 17), .inl ytop, .inl (0, 1)]), .inr (.inl (0, [(16, ytop)])), .inr (.inl (0, [(16, ytop)])), .inr (.inl (0, [(16, ytop)])), .inl (3, [.inr (.inr [102]), .inr (.inr [103]), .inr (.inr [104]), ylong, .inl (0, 17), .inl ytop, .inl (0, 1)]), .inr (.inl (0, [(16, ytop)])), .inr (.inl (0, [(16, ytop)])), .inr (.inl (0, [(16, ytop)])), .inl (3, [.inr (.inr [106]), .inr (.inr [107]), .inr (.inr [108]), ylong, .inl (0, 17), .inl ytop, .inl (0, 1)]), .inr (.inl (0, [(16, ytop)])), .inr (.inl (0, [(16, ytop)])), .inr (.inl (0, [(16, ytop)]))]
def yTk6 : List yC := [.inl (0, [.inr (.inr [51]), .inr (.inr [53]), .inr (.inr [109]), .inr (.inr [113]), .inr (.inr [117]), .inr (.inr [122]), .inr (.inr [171]), .inr (.inr [173]), .inr (.inr [175]), .inr (.inr [176]), .inl (0, 24), .inl ytop, .inl ytop]), .inl (1, [.inr (.inr [52]), .inl (0, 100)]), .inr (.inl (1, [(100, 0, 65535)])), .inl (2, [.inr (.inr [54]), .inr (.inr [55]), .inr (.inr [56]), .inl (6, 6), .inl (0, 208), .inl (0, 208)]), .inr (.inr (.inr (3, [[57], [61], [65], [69], [73], [77], [81], [85], [89], [93], [97], [101], [105]]))), .inr (.inl (0, [(208, 0, 12)])), .inr (.inl (0, [(208, 0, 6)])), .inl (3, [.inr (.inr [58]), .inr (.inr [59]), .inr (.inr [60]), ylong, .inl (0, 16), .inl ytop, .inl (0, 1)]), .inr (.inl (0, [(16, 0, 208)])), .inr (.inl (0, [(16, 0, 208)])), .inr (.inl (0, [(16, 0, 16)])), .inl (3, [.inr (.inr [62]), .inr (.inr [63]), .inr (.inr [64]), ylong, .inl (0, 16), .inl ytop, .inl (0, 1)]), .inr (.inl (0, [(16, 0, 208)])), .inr (.inl (0, [(16, 0, 208)])), .inr (.inl (0, [(16, 0, 16)])), .inl (3, [.inr (.inr [66]), .inr (.inr [67]), .inr (.inr [68]), ylong, .inl (0, 16), .inl ytop, .inl (0, 1)]), .inr (.inl (0, [(16, 0, 208)])), .inr (.inl (0, [(16, 0, 208)])), .inr (.inl (0, [(16, 0, 16)])), .inl (3, [.inr (.inr [70]), .inr (.inr [71]), .inr (.inr [72]), ylong, .inl (0, 16), .inl ytop, .inl (0, 1)]), .inr (.inl (0, [(16, 0, 208)])), .inr (.inl (0, [(16, 0, 208)])), .inr (.inl (0, [(16, 0, 16)])), .inl (3, [.inr (.inr [74]), .inr (.inr [75]), .inr (.inr [76]), ylong, .inl (0, 16), .inl ytop, .inl (0, 1)]), .inr (.inl (0, [(16, 0, 208)])), .inr (.inl (0, [(16, 0, 208)])), .inr (.inl (0, [(16, 0, 16)])), .inl (3, [.inr (.inr [78]), .inr (.inr [79]), .inr (.inr [80]), ylong, .inl (0, 16), .inl ytop, .inl (0, 1)]), .inr (.inl (0, [(16, 0, 208)])), .inr (.inl (0, [(16, 0, 208)])), .inr (.inl (0, [(16, 0, 16)])), .inl (3, [.inr (.inr [82]), .inr (.inr [83]), .inr (.inr [84]), ylong, .inl (0, 17), .inl ytop, .inl (0, 1)]), .inr (.inl (0, [(16, ytop)])), .inr (.inl (0, [(16, ytop)])), .inr (.inl (0, [(16, ytop)])), .inl (3, [.inr (.inr [86]), .inr (.inr [87]), .inr (.inr [88]), ylong, .inl (0, 17), .inl ytop, .inl (0, 1)]), .inr (.inl (0, [(16, ytop)])), .inr (.inl (0, [(16, ytop)])), .inr (.inl (0, [(16, ytop)])), .inl (3, [.inr (.inr [90]), .inr (.inr [91]), .inr (.inr [92]), ylong, .inl (0, 17), .inl ytop, .inl (0, 1)]), .inr (.inl (0, [(16, ytop)])), .inr (.inl (0, [(16, ytop)])), .inr (.inl (0, [(16, ytop)])), .inl (3, [.inr (.inr [94]), .inr (.inr [95]), .inr (.inr [96]), ylong, .inl (0, 17), .inl ytop, .inl (0, 1)]), .inr (.inl (0, [(16, ytop)])), .inr (.inl (0, [(16, ytop)])), .inr (.inl (0, [(16, ytop)])), .inl (3, [.inr (.inr [98]), .inr (.inr [99]), .inr (.inr [100]), ylong, .inl (0, 17), .inl ytop, .inl (0, 1)]), .inr (.inl (0, [(16, ytop)])), .inr (.inl (0, [(16, ytop)])), .inr (.inl (0, [(16, ytop)])), .inl (3, [.inr (.inr [102]), .inr (.inr [103]), .inr (.inr [104]), ylong, .inl (0, 17), .inl ytop, .inl (0, 1)]), .inr (.inl (0, [(16, ytop)])), .inr (.inl (0, [(16, ytop)])), .inr (.inl (0, [(16, ytop)])), .inl (3, [.inr (.inr [106]), .inr (.inr [107]), .inr (.inr [108]), ylong, .inl (0, 17), .inl ytop, .inl (0, 1)]), .inr (.inl (0, [(16, ytop)])), .inr (.inl (0, [(16, ytop)])), .inr (.inl (0, [(16, ytop)]))]
def yTk7 : List yC := [.inl (0, [.inr (.inr [51]), .inr (.inr [53]), .inr (.inr [109]), .inr (.inr [113]), .inr (.inr [117]), .inr (.inr [122]), .inr (.inr [171]), .inr (.inr [173]), .inr (.inr [175]), .inr (.inr [176]), .inl (0, 24), .inl ytop, .inl ytop]), .inl (1, [.inr (.inr [52]), .inl (0, 100)]), .inr (.inl (1, [(100, 0, 65535)])), .inl (2, [.inr (.inr [54]), .inr (.inr [55]), .inr (.inr [56]), .inl (7, 7), .inl (0, 208), .inl (0, 208)]), .inr (.inr (.inr (3, [[57], [61], [65], [69], [73], [77], [81], [85], [89], [93], [97], [101], [105]]))), .inr (.inl (0, [(208, 0, 12)])), .inr (.inl (0, [(208, 0, 6)])), .inl (3, [.inr (.inr [58]), .inr (.inr [59]), .inr (.inr [60]), ylong, .inl (0, 16), .inl ytop, .inl (0, 1)]), .inr (.inl (0, [(16, 0, 208)])), .inr (.inl (0, [(16, 0, 208)])), .inr (.inl (0, [(16, 0, 16)])), .inl (3, [.inr (.inr [62]), .inr (.inr [63]), .inr (.inr [64]), ylong, .inl (0, 16), .inl ytop, .inl (0, 1)]), .inr (.inl (0, [(16, 0, 208)])), .inr (.inl (0, [(16, 0, 208)])), .inr (.inl (0, [(16, 0, 16)])), .inl (3, [.inr (.inr [66]), .inr (.inr [67]), .inr (.inr [68]), ylong, .inl (0, 16), .inl ytop, .inl (0, 1)]), .inr (.inl (0, [(16, 0, 208)])), .inr (.inl (0, [(16, 0, 208)])), .inr (.inl (0, [(16, 0, 16)])), .inl (3, [.inr (.inr [70]), .inr (.inr [71]), .inr (.inr [72]), ylong, .inl (0, 16), .inl ytop, .inl (0, 1)]), .inr (.inl (0, [(16, 0, 208)])), .inr (.inl (0, [(16, 0, 208)])), .inr (.inl (0, [(16, 0, 16)])), .inl (3, [.inr (.inr [74]), .inr (.inr [75]), .inr (.inr [76]), ylong, .inl (0, 16), .inl ytop, .inl (0, 1)]), .inr (.inl (0, [(16, 0, 208)])), .inr (.inl (0, [(16, 0, 208)])), .inr (.inl (0, [(16, 0, 16)])), .inl (3, [.inr (.inr [78]), .inr (.inr [79]), .inr (.inr [80]), ylong, .inl (0, 16), .inl ytop, .inl (0, 1)]), .inr (.inl (0, [(16, 0, 208)])), .inr (.inl (0, [(16, 0, 208)])), .inr (.inl (0, [(16, 0, 16)])), .inl (3, [.inr (.inr [82]), .inr (.inr [83]), .inr (.inr [84]), ylong, .inl (0, 16), .inl ytop, .inl (0, 1)]), .inr (.inl (0, [(16, 0, 208)])), .inr (.inl (0, [(16, 0, 208)])), .inr (.inl (0, [(16, 0, 16)])), .inl (3, [.inr (.inr [86]), .inr (.inr [87]), .inr (.inr [88]), ylong, .inl (0, 17), .inl ytop, .inl (0, 1)]), .inr (.inl (0, [(16, ytop)])), .inr (.inl (0, [(16, ytop)])), .inr (.inl (0, [(16, ytop)])), .inl (3, [.inr (.inr [90]), .inr (.inr [91]), .inr (.inr [92]), ylong, .inl (0, 17), .inl ytop, .inl (0, 1)]), .inr (.inl (0, [(16, ytop)])), .inr (.inl (0, [(16, ytop)])), .inr (.inl (0, [(16, ytop)])), .inl (3, [.inr (.inr [94]), .inr (.inr [95]), .inr (.inr [96]), ylong, .inl (0, 17), .inl ytop, .inl (0, 1)]), .inr (.inl (0, [(16, ytop)])), .inr (.inl (0, [(16, ytop)])), .inr (.inl (0, [(16, ytop)])), .inl (3, [.inr (.inr [98]), .inr (.inr [99]), .inr (.inr [100]), ylong, .inl (0, 17), .inl ytop, .inl (0, 1)]), .inr (.inl (0, [(16, ytop)])), .inr (.inl (0, [(16, ytop)])), .inr (.inl (0, [(16, ytop)])), .inl (3, [.inr (.inr [102]), .inr (.inr [103]), .inr (.inr [104]), ylong, .inl (0, 17), .inl ytop, .inl (0, 1)]), .inr (.inl (0, [(16, ytop)])), .inr (.inl (0, [(16, ytop)])), .inr (.inl (0, [(16, ytop)])), .inl (3, [.inr (.inr [106]), .inr (.inr [107]), .inr (.inr [108]), ylong, .inl (0, 17), .inl ytop, .inl (0, 1)]), .inr (.inl (0, [(16, ytop)])), .inr (.inl (0, [(16, ytop)])), .inr (.inl (0, [(16, ytop)]))]
def yTk8 : List yC := [.inl (0, [.inr (.inr [51]), .inr (.inr [53]), .inr (.inr [109]), .inr (.inr [113]), .inr (.inr [117]), .inr (.inr [122]), .inr (.inr [171]), .inr (.inr [173]), .inr (.inr [175]), .inr (.inr [176]), .inl (0, 24), .inl ytop, .inl ytop]), .inl (1, [.inr (.inr [52]), .inl (0, 100)]), .inr (.inl (1, [(100, 0, 65535)])), .inl (2, [.inr (.inr [54]), .inr (.inr [55]), .inr (.inr [56]), .inl (8, 8), .inl (0, 208), .inl (0, 208)]), .inr (.inr (.inr (3, [[57], [61], [65], [69], [73], [77], [81], [85], [89], [93], [97], [101], [105]]))), .inr (.inl (0, [(208, 0, 12)])), .inr (.inl (0, [(208, 0, 6)])), .inl (3, [.inr (.inr [58]), .inr (.inr [59]), .inr (.inr [60]), ylong, .inl (0, 16), .inl ytop, .inl (0, 1)]), .inr (.inl (0, [(16, 0, 208)])), .inr (.inl (0, [(16, 0, 208)])), .inr (.inl (0, [(16, 0, 16)])), .inl (3, [.inr (.inr [62]), .inr (.inr [63]), .inr (.inr [64]), ylong, .inl (0, 16), .inl ytop, .inl (0, 1)]), .inr (.inl (0, [(16, 0, 208)])), .inr (.inl (0, [(16, 0, 208)])), .inr (.inl (0, [(16, 0, 16)])), .inl (3, [.inr (.inr [66]), .inr (.inr [67]), .inr (.inr [68]), ylong, .inl (0, 16), .inl ytop, .inl (0, 1)]), .inr (.inl (0, [(16, 0, 208)])), .inr (.inl (0, [(16, 0, 208)])), .inr (.inl (0, [(16, 0, 16)])), .inl (3, [.inr (.inr [70]), .inr (.inr [71]), .inr (.inr [72]), ylong, .inl (0, 16), .inl ytop, .inl (0, 1)]), .inr (.inl (0, [(16, 0, 208)])), .inr (.inl (0, [(16, 0, 208)])), .inr (.inl (0, [(16, 0, 16)])), .inl (3, [.inr (.inr [74]), .inr (.inr [75]), .inr (.inr [76]), ylong, .inl (0, 16), .inl ytop, .inl (0, 1)]), .inr (.inl (0, [(16, 0, 208)])), .inr (.inl (0, [(16, 0, 208)])), .inr (.inl (0, [(16, 0, 16)])), .inl (3, [.inr (.inr [78]), .inr (.inr [79]), .inr (.inr [80]), ylong, .inl (0, 16), .inl ytop, .inl (0, 1)]), .inr (.inl (0, [(16, 0, 208)])), .inr (.inl (0, [(16, 0, 208)])), .inr (.inl (0, [(16, 0, 16)])), .inl (3, [.inr (.inr [82]), .inr (.inr [83]), .inr (.inr [84]), ylong, .inl (0, 16), .inl ytop, .inl (0, 1)]), .inr (.inl (0, [(16, 0, 208)])), .inr (.inl (0, [(16, 0, 208)])), .inr (.inl (0, [(16, 0, 16)])), .inl (3, [.inr (.inr [86]), .inr (.inr [87]), .inr (.inr [88]), ylong, .inl (0, 16), .inl ytop, .inl (0, 1)]), .inr (.inl (0, [(16, 0, 208)])), .inr (.inl (0, [(16, 0, 208)])), .inr (.inl (0, [(16, 0, 16)])), .inl (3, [.inr (.inr [90]), .inr (.inr [91]), .inr (.inr [92]), ylong, .inl (0, 17), .inl ytop, .inl (0, 1)]), .inr (.inl (0, [(16, ytop)])), .inr (.inl (0, [(16, ytop)])), .inr (.inl (0, [(16, ytop)])), .inl (3, [.inr (.inr [94]), .inr (.inr [95]), .inr (.inr [96]), ylong, .inl (0, 17), .inl ytop, .inl (0, 1)]), .inr (.inl (0, [(16, ytop)])), .inr (.inl (0, [(16, ytop)])), .inr (.inl (0, [(16, ytop)])), .inl (3, [.inr (.inr [98]), .inr (.inr [99]), .inr (.inr [100]), ylong, .inl (0, 17), .inl ytop, .inl (0, 1)]), .inr (.inl (0, [(16, ytop)])), .inr (.inl (0, [(16, ytop)])), .inr (.inl (0, [(16, ytop)])), .inl (3, [.inr (.inr [102]), .inr (.inr [103]), .inr (.inr [104]), ylong, .inl (0, 17), .inl ytop, .inl (0, 1)]), .inr (.inl (0, [(16, ytop)])), .inr (.inl (0, [(16, ytop)])), .inr (.inl (0, [(16, ytop)])), .inl (3, [.inr (.inr [106]), .inr (.inr [107]), .inr (.inr [108]), ylong, .inl (0, 17), .inl ytop, .inl (0, 1)]), .inr (.inl (0, [(16, ytop)])), .inr (.inl (0, [(16, ytop)])), .inr (.inl (0, [(16, ytop)]))]
def yTk9 : List yC := [.inl (0, [.inr (.inr [51]), .inr (.inr [53]), .inr (.inr [109]), .inr (.inr [113]), .inr (.inr [117]), .inr (.inr [122]), .inr (.inr [171]), .inr (.inr [173]), .inr (.inr [175]), .inr (.inr [176]), .inl (0, 24), .inl ytop, .inl ytop]), .inl (1, [.inr (.inr [52]), .inl (0, 100)]), .inr (.inl (1, [(100, 0, 65535)])), .inl (2, [.inr (.inr [54]), .inr (.inr [55]), .inr (.inr [56]), .inl (9, 9), .inl (0, 208), .inl (0, 208)]), .inr (.inr (.inr (3, [[57], [61], [65], [69], [73], [77], [81], [85], [89], [93], [97], [101], [105]]))), .inr (.inl (0, [(208, 0, 12)])), .inr (.inl (0, [(208, 0, 6)])), .inl (3, [.inr (.inr [58]), .inr (.inr [59]), .inr (.inr [60]), ylong, .inl (0, 16), .inl ytop, .inl (0, 1)]), .inr (.inl (0, [(16, 0, 208)])), .inr (.inl (0, [(16, 0, 208)])), .inr (.inl (0, [(16, 0, 16)])), .inl (3, [.inr (.inr [62]), .inr (.inr [63]), .inr (.inr [64]), ylong, .inl (0, 16), .inl ytop, .inl (0, 1)]), .inr (.inl (0, [(16, 0, 208)])), .inr (.inl (0, [(16, 0, 208)])), .inr (.inl (0, [(16, 0, 16)])), .inl (3, [.inr (.inr [66]), .inr (.inr [67]), .inr (.inr [68]), ylong, .inl (0, 16), .inl ytop, .inl (0, 1)]), .inr (.inl (0, [(16, 0, 208)])), .inr (.inl (0, [(16, 0, 208)])), .inr (.inl (0, [(16, 0, 16)])), .inl (3, [.inr (.inr [70]), .inr (.inr [71]), .inr (.inr [72]), ylong, .inl (0, 16), .inl ytop, .inl (0, 1)]), .inr (.inl (0, [(16, 0, 208)])), .inr (.inl (0, [(16, 0, 208)])), .inr (.inl (0, [(16, 0, 16)])), .inl (3, [.inr (.inr [74]), .inr (.inr [75]), .inr (.inr [76]), ylong, .inl (0, 16), .inl ytop, .inl (0, 1)]), .inr (.inl (0, [(16, 0, 208)])), .inr (.inl (0, [(16, 0, 208)])), .inr (.inl (0, [(16, 0, 16)])), .inl (3, [.inr (.inr [78]), .inr (.inr [79]), .inr (.inr [80]), ylong, .inl (0, 16), .inl ytop, .inl (0, 1)]), .inr (.inl (0, [(16, 0, 208)])), .inr (.inl (0, [(16, 0, 208)])), .inr (.inl (0, [(16, 0, 16)])), .inl (3, [.inr (.inr [82]), .inr (.inr [83]), .inr (.inr [84]), ylong, .inl (0, 16), .inl ytop, .inl (0, 1)]), .inr (.inl (0, [(16, 0, 208)])), .inr (.inl (0, [(16, 0, 208)])), .inr (.inl (0, [(16, 0, 16)])), .inl (3, [.inr (.inr [86]), .inr (.inr [87]), .inr (.inr [88]), ylong, .inl (0, 16), .inl ytop, .inl (0, 1)]), .inr (.inl (0, [(16, 0, 208)])), .inr (.inl (0, [(16, 0, 208)])), .inr (.inl (0, [(16, 0, 16)])), .inl (3, [.inr (.inr [90]), .inr (.inr [91]), .inr (.inr [92]), ylong, .inl (0, 16), .inl ytop, .inl (0, 1)]), .inr (.inl (0, [(16, 0, 208)])), .inr (.inl (0, [(16, 0, 208)])), .inr (.inl (0, [(16, 0, 16)])), .inl (3, [.inr (.inr [94]), .inr (.inr [95]), .inr (.inr [96]), ylong, .inl (0, 17), .inl ytop, .inl (0, 1)]), .inr (.inl (0, [(16, ytop)])), .inr (.inl (0, [(16, ytop)])), .inr (.inl (0, [(16, ytop)])), .inl (3, [.inr (.inr [98]), .inr (.inr [99]), .inr (.inr [100]), ylong, .inl (0, 17), .inl ytop, .inl (0, 1)]), .inr (.inl (0, [(16, ytop)])), .inr (.inl (0, [(16, ytop)])), .inr (.inl (0, [(16, ytop)])), .inl (3, [.inr (.inr [102]), .inr (.inr [103]), .inr (.inr [104]), ylong, .inl (0, 17), .inl ytop, .inl (0, 1)]), .inr (.inl (0, [(16, ytop)])), .inr (.inl (0, [(16, ytop)])), .inr (.inl (0, [(16, ytop)])), .inl (3, [.inr (.inr [106]), .inr (.inr [107]), .inr (.inr [108]), ylong, .inl (0, 17), .inl ytop, .inl (0, 1)]), .inr (.inl (0, [(16, ytop)])), .inr (.inl (0, [(16, ytop)])), .inr (.inl (0, [(16, ytop)]))]
def yTk10 : List yC := [.inl (0, [.inr (.inr [51]), .inr (.inr [53]), .inr (.inr [109]), .inr (.inr [113]), .inr (.inr [117]), .inr (.inr [122]), .inr (.inr [171]), .inr (.inr [173]), .inr (.inr [175]), .inr (.inr [176]), .inl (0, 24), .inl ytop, .inl ytop]), .inl (1, [.inr (.inr [52]), .inl (0, 100)]), .inr (.inl (1, [(100, 0, 65535)])), .inl (2, [.inr (.inr [54]), .inr (.inr [55]), .inr (.inr [56]), .inl (10, 10), .inl (0, 208), .inl (0, 208)]), .inr (.inr (.inr (3, [[57], [61], [65], [69], [73], [77], [81], [85], [89], [93], [97], [101], [105]]))), .inr (.inl (0, [(208, 0, 12)])), .inr (.inl (0, [(208, 0, 6)])), .inl (3, [.inr (.inr [58]), .inr (.inr [59]), .inr (.inr [60]), ylong, .inl (0, 16), .inl ytop, .inl (0, 1)]), .inr (.inl (0, [(16, 0, 208)])), .inr (.inl (0, [(16, 0, 208)])), .inr (.inl (0, [(16, 0, 16)])), .inl (3, [.inr (.inr [62]), .inr (.inr [63]), .inr (.inr [64]), ylong, .inl (0, 16), .inl ytop, .inl (0, 1)]), .inr (.inl (0, [(16, 0, 208)])), .inr (.inl (0, [(16, 0, 208)])), .inr (.inl (0, [(16, 0, 16)])), .inl (3, [.inr (.inr [66]), .inr (.inr [67]), .inr (.inr [68]), ylong, .inl (0, 16), .inl ytop, .inl (0, 1)]), .inr (.inl (0, [(16, 0, 208)])), .inr (.inl (0, [(16, 0, 208)])), .inr (.inl (0, [(16, 0, 16)])), .inl (3, [.inr (.inr [70]), .inr (.inr [71]), .inr (.inr [72]), ylong, .inl (0, 16), .inl ytop, .inl (0, 1)]), .inr (.inl (0, [(16, 0, 208)])), .inr (.inl (0, [(16, 0, 208)])), .inr (.inl (0, [(16, 0, 16)])), .inl (3, [.inr (.inr [74]), .inr (.inr [75]), .inr (.inr [76]), ylong, .inl (0, 16), .inl ytop, .inl (0, 1)]), .inr (.inl (0, [(16, 0, 208)])), .inr (.inl (0, [(16, 0, 208)])), .inr (.inl (0, [(16, 0, 16)])), .inl (3, [.inr (.inr [78]), .inr (.inr [79]), .inr (.inr [80]), ylong, .inl (0, 16), .inl ytop, .inl (0, 1)]), .inr (.inl (0, [(16, 0, 208)])), .inr (.inl (0, [(16, 0, 208)])), .inr (.inl (0, [(16, 0, 16)])), .inl (3, [.inr (.inr [82]), .inr (.inr [83]), .inr (.inr [84]), ylong, .inl (0, 16), .inl ytop, .inl (0, 1)]), .inr (.inl (0, [(16, 0, 208)])), .inr (.inl (0, [(16, 0, 208)])), .inr (.inl (0, [(16, 0, 16)])), .inl (3, [.inr (.inr [86]), .inr (.inr [87]), .inr (.inr [88]), ylong, .inl (0, 16), .inl ytop, .inl (0, 1)]), .inr (.inl (0, [(16, 0, 208)])), .inr (.inl (0, [(16, 0, 208)])), .inr (.inl (0, [(16, 0, 16)])), .inl (3, [.inr (.inr [90]), .inr (.inr [91]), .inr (.inr [92]), ylong, .inl (0, 16), .inl ytop, .inl (0, 1)]), .inr (.inl (0, [(16, 0, 208)])), .inr (.inl (0, [(16, 0, 208)])), .inr (.inl (0, [(16, 0, 16)])), .inl (3, [.inr (.inr [94]), .inr (.inr [95]), .inr (.inr [96]), ylong, .inl (0, 16), .inl ytop, .inl (0, 1)]), .inr (.inl (0, [(16, 0, 208)])), .inr (.inl (0, [(16, 0, 208)])), .inr (.inl (0, [(16, 0, 16)])), .inl (3, [.inr (.inr [98]), .inr (.inr [99]), .inr (.inr [100]), ylong, .inl (0, 17), .inl ytop, .inl (0, 1)]), .inr (.inl (0, [(16, ytop)])), .inr (.inl (0, [(16, ytop)])), .inr (.inl (0, [(16, ytop)])), .inl (3, [.inr (.inr [102]), .inr (.inr [103]), .inr (.inr [104]), ylong, .inl (0, 17), .inl ytop, .inl (0, 1)]), .inr (.inl (0, [(16, ytop)])), .inr (.inl (0, [(16, ytop)])), .inr (.inl (0, [(16, ytop)])), .inl (3, [.inr (.inr [106]), .inr (.inr [107]), .inr (.inr [108]), ylong, .inl (0, 17), .inl ytop, .inl (0, 1)]), .inr (.inl (0, [(16, ytop)])), .inr (.inl (0, [(16, ytop)])), .inr (.inl (0, [(16, ytop)]))]
def yTk11 : List yC := [.inl (0, [.inr (.inr [51]), .inr (.inr [53]), .inr (.inr [109]), .inr (.inr [113]), .inr (.inr [117]), .inr (.inr [122]), .inr (.inr [171]), .inr (.inr [173]), .inr (.inr [175]), .inr (.inr [176]), .inl (0, 24), .inl ytop, .inl ytop]), .inl (1, [.inr (.inr [52]), .inl (0, 100)]), .inr (.inl (1, [(100, 0, 65535)])), .inl (2, [.inr (.inr [54]), .inr (.inr [55]), .inr (.inr [56]), .inl (11, 11), .inl (0, 208), .inl (0, 208)]), .inr (.inr (.inr (3, [[57], [61], [65], [69], [73], [77], [81], [85], [89], [93], [97], [101], [105]]))), .inr (.inl (0, [(208, 0, 12)])), .inr (.inl (0, [(208, 0, 6)])), .inl (3, [.inr (.inr [58]), .inr (.inr [59]), .inr (.inr [60]), ylong, .inl (0, 16), .inl ytop, .inl (0, 1)]), .inr (.inl (0, [(16, 0, 208)])), .inr (.inl (0, [(16, 0, 208)])), .inr (.inl (0, [(16, 0, 16)])), .inl (3, [.inr (.inr [62]), .inr (.inr [63]), .inr (.inr [64]), ylong, .inl (0, 16), .inl ytop, .inl (0, 1)]), .inr (.inl (0, [(16, 0, 208)])), .inr (.inl (0, [(16, 0, 208)])), .inr (.inl (0, [(16, 0, 16)])), .inl (3, [.inr (.inr [66]), .inr (.inr [67]), .inr (.inr [68]), ylong, .inl (0, 16), .inl ytop, .inl (0, 1)]), .inr (.inl (0, [(16, 0, 208)])), .inr (.inl (0, [(16, 0, 208)])), .inr (.inl (0, [(16, 0, 16)])), .inl (3, [.inr (.inr [70]), .inr (.inr [71]), .inr (.inr [72]), ylong, .inl (0, 16), .inl ytop, .inl (0, 1)]), .inr (.inl (0, [(16, 0, 208)])), .inr (.inl (0, [(16, 0, 208)])), .inr (.inl (0, [(16, 0, 16)])), .inl (3, [.inr (.inr [74]), .inr (.inr [75]), .inr (.inr [76]), ylong, .inl (0, 16), .inl ytop, .inl (0, 1)]), .inr (.inl (0, [(16, 0, 208)])), .inr (.inl (0, [(16, 0, 208)])), .inr (.inl (0, [(16, 0, 16)])), .inl (3, [.inr (.inr [78]), .inr (.inr [79]), .inr (.inr [80]), ylong, .inl (0, 16), .inl ytop, .inl (0, 1)]), .inr (.inl (0, [(16, 0, 208)])), .inr (.inl (0, [(16, 0, 208)])), .inr (.inl (0, [(16, 0, 16)])), .inl (3, [.inr (.inr [82]), .inr (.inr [83]), .inr (.inr [84]), ylong, .inl (0, 16), .inl ytop, .inl (0, 1)]), .inr (.inl (0, [(16, 0, 208)])), .inr (.inl (0, [(16, 0, 208)])), .inr (.inl (0, [(16, 0, 16)])), .inl (3, [.inr (.inr [86]), .inr (.inr [87]), .inr (.inr [88]), ylong, .inl (0, 16), .inl ytop, .inl (0, 1)]), .inr (.inl (0, [(16, 0, 208)])), .inr (.inl (0, [(16, 0, 208)])), .inr (.inl (0, [(16, 0, 16)])), .inl (3, [.inr (.inr [90]), .inr (.inr [91]), .inr (.inr [92]), ylong, .inl (0, 16), .inl ytop, .inl (0, 1)]), .inr (.inl (0, [(16, 0, 208)])), .inr (.inl (0, [(16, 0, 208)])), .inr (.inl (0, [(16, 0, 16)])), .inl (3, [.inr (.inr [94]), .inr (.inr [95]), .inr (.inr [96]), ylong, .inl (0, 16), .inl ytop, .inl (0, 1)]), .inr (.inl (0, [(16, 0, 208)])), .inr (.inl (0, [(16, 0, 208)])), .inr (.inl (0, [(16, 0, 16)])), .inl (3, [.inr (.inr [98]), .inr (.inr [99]), .inr (.inr [100]), ylong, .inl (0, 16), .inl ytop, .inl (0, 1)]), .inr (.inl (0, [(16, 0, 208)])), .inr (.inl (0, [(16, 0, 208)])), .inr (.inl (0, [(16, 0, 16)])), .inl (3, [.inr (.inr [102]), .inr (.inr [103]), .inr (.inr [104]), ylong, .inl (0, 17), .inl ytop, .inl (0, 1)]), .inr (.inl (0, [(16, ytop)])), .inr (.inl (0, [(16, ytop)])), .inr (.inl (0, [(16, ytop)])), .inl (3, [.inr (.inr [106]), .inr (.inr [107]), .inr (.inr [108]), ylong, .inl (0, 17), .inl ytop, .inl (0, 1)]), .inr (.inl (0, [(16, ytop)])), .inr (.inl (0, [(16, ytop)])), .inr (.inl (0, [(16, ytop)]))]
def yTk12 : List yC := [.inl (0, [.inr (.inr [51]), .inr (.inr [53]), .inr (.inr [109]), .inr (.inr [113]), .inr (.inr [117]), .inr (.inr [122]), .inr (.inr [171]), .inr (.inr [173]), .inr (.inr [175]), .inr (.inr [176]), .inl (0, 24), .inl ytop, .inl ytop]), .inl (1, [.inr (.inr [52]), .inl (0, 100)]), .inr (.inl (1, [(100, 0, 65535)])), .inl (2, [.inr (.inr [54]), .inr (.inr [55]), .inr (.inr [56]), .inl (12, 12), .inl (0, 208), .inl (0, 208)]), .inr (.inr (.inr (3, [[57], [61], [65], [69], [73], [77], [81], [85], [89], [93], [97], [101], [105]]))), .inr (.inl (0, [(208, 0, 12)])), .inr (.inl (0, [(208, 0, 6)])), .inl (3, [.inr (.inr [58]), .inr (.inr [59]), .inr (.inr [60]), ylong, .inl (0, 16), .inl ytop, .inl (0, 1)]), .inr (.inl (0, [(16, 0, 208)])), .inr (.inl (0, [(16, 0, 208)])), .inr (.inl (0, [(16, 0, 16)])), .inl (3, [.inr (.inr [62]), .inr (.inr [63]), .inr (.inr [64]), ylong, .inl (0, 16), .inl ytop, .inl (0, 1)]), .inr (.inl (0, [(16, 0, 208)])), .inr (.inl (0, [(16, 0, 208)])), .inr (.inl (0, [(16, 0, 16)])), .inl (3, [.inr (.inr [66]), .inr (.inr [67]), .inr (.inr [68]), ylong, .inl (0, 16), .inl ytop, .inl (0, 1)]), .inr (.inl (0, [(16, 0, 208)])), .inr (.inl (0, [(16, 0, 208)])), .inr (.inl (0, [(16, 0, 16)])), .inl (3, [.inr (.inr [70]), .inr (.inr [71]), .inr (.inr [72]), ylong, .inl (0, 16), .inl ytop, .inl (0, 1)]), .inr (.inl (0, [(16, 0, 208)])), .inr (.inl (0, [(16, 0, 208)])), .inr (.inl (0, [(16, 0, 16)])), .inl (3, [.inr (.inr [74]), .inr (.inr [75]), .inr (.inr [76]), ylong, .inl (0, 16), .inl ytop, .inl (0, 1)]), .inr (.inl (0, [(16, 0, 208)])), .inr (.inl (0, [(16, 0, 208)])), .inr (.inl (0, [(16, 0, 16)])), .inl (3, [.inr (.inr [78]), .inr (.inr [79]), .inr (.inr [80]), ylong, .inl (0, 16), .inl ytop, .inl (0, 1)]), .inr (.inl (0, [(16, 0, 208)])), .inr (.inl (0, [(16, 0, 208)])), .inr (.inl (0, [(16, 0, 16)])), .inl (3, [.inr (.inr [82]), .inr (.inr [83]), .inr (.inr [84]), ylong, .inl (0, 16), .inl ytop, .inl (0, 1)]), .inr (.inl (0, [(16, 0, 208)])), .inr (.inl (0, [(16, 0, 208)])), .inr (.inl (0, [(16, 0, 16)])), .inl (3, [.inr (.inr [86]), .inr (.inr [87]), .inr (.inr [88]), ylong, .inl (0, 16), .inl ytop, .inl (0, 1)]), .inr (.inl (0, [(16, 0, 208)])), .inr (.inl (0, [(16, 0, 208)])), .inr (.inl (0, [(16, 0, 16)])), .inl (3, [.inr (.inr [90]), .inr (.inr [91]), .inr (.inr [92]), ylong, .inl (0, 16), .inl ytop, .inl (0, 1)]), .inr (.inl (0, [(16, 0, 208)])), .inr (.inl (0, [(16, 0, 208)])), .inr (.inl (0, [(16, 0, 16)])), .inl (3, [.inr (.inr [94]), .inr (.inr [95]), .inr (.inr [96]), ylong, .inl (0, 16), .inl ytop, .inl (0, 1)]), .inr (.inl (0, [(16, 0, 208)])), .inr (.inl (0, [(16, 0, 208)])), .inr (.inl (0, [(16, 0, 16)])), .inl (3, [.inr (.inr [98]), .inr (.inr [99]), .inr (.inr [100]), ylong, .inl (0, 16), .inl ytop, .inl (0, 1)]), .inr (.inl (0, [(16, 0, 208)])), .inr (.inl (0, [(16, 0, 208)])), .inr (.inl (0, [(16, 0, 16)])), .inl (3, [.inr (.inr [102]), .inr (.inr [103]), .inr (.inr [104]), ylong, .inl (0, 16), .inl ytop, .inl (0, 1)]), .inr (.inl (0, [(16, 0, 208)])), .inr (.inl (0, [(16, 0, 208)])), .inr (.inl (0, [(16, 0, 16)])), .inl (3, [.inr (.inr [106]), .inr (.inr [107]), .inr (.inr [108]), ylong, .inl (0, 17), .inl ytop, .inl (0, 1)]), .inr (.inl (0, [(16, ytop)])), .inr (.inl (0, [(16, ytop)])), .inr (.inl (0, [(16, ytop)]))]
def yTk (c : Nat) : List yC := (match c with
  | 0 => yTk0
  | 1 => yTk1
  | 2 => yTk2
  | 3 => yTk3
  | 4 => yTk4
  | 5 => yTk5
  | 6 => yTk6
  | 7 => yTk7
  | 8 => yTk8
  | 9 => yTk9
  | 10 => yTk10
  | 11 => yTk11
  | _ => yTk12) ++ yTz
end
section
/-! The places that dancing and searching write; the given cells; a table instead of an interval. -/
def yW : List Nat := [50, 115, 116, 117, 118, 119, 120, 121] ++ (List.range 54).map (fun k => k + 123) ++ [177] ++ (List.range 11).map (fun k => k + 189) ++ [201, 202, 203]
def ykb (l : List (Nat × Int × Int)) (xs : List Int32) : Bool := (List.range xs.length).all fun j => match yat l j, xs[j]? with
  | some q, some z => decide (q.1 ≤ z.toInt) && decide (z.toInt ≤ q.2)
  | _, _ => false
theorem ykb_spec {kd : Nat} {l : List (Nat × Int × Int)} {xs : List Int32} (h : ykb l xs = true) (hl : xs.length = ysum l) : yok (.inr (.inl (kd, l))) (.inr (.inl (kd, xs))) := by
  refine ⟨rfl, hl, fun j q z h1 h2 => ?_⟩
  have hj : j < xs.length := (List.getElem?_eq_some_iff.mp h2).1
  have h3 := List.all_eq_true.mp h j (List.mem_range.mpr hj)
  have h1' : yat l j = some q := h1
  have h2' : xs[j]? = some z := h2
  simp only [h1', h2', Bool.and_eq_true, decide_eq_true_eq] at h3
  exact h3
theorem yg_ok (xs : List Int32) : yMg yTg (zG xs) := by
  intro j t hj ht
  match j, hj, ht with
  | 0, hj, _ => exact absurd rfl hj
  | 1, _, ht => cases ht; exact ⟨_, rfl, ykb_spec (by decide +kernel) rfl⟩
  | 2, _, ht => cases ht; exact ⟨_, rfl, ykb_spec (by decide +kernel) rfl⟩
  | 3, _, ht => cases ht; exact ⟨_, rfl, ykb_spec (by decide +kernel) rfl⟩
  | 4, _, ht => cases ht; exact ⟨_, rfl, ykb_spec (by decide +kernel) rfl⟩
  | j + 5, _, ht => cases ht
/-- what a summary promises, in every launch, on every script; of W alone is written -/
def yx (W : List Nat) (T : List yC) (s : ySm) : Prop := ∀ (v0 : Value) (xs : List Int32), yV W (zt v0) (zG xs) T s
def yxo (W : List Nat) (T : List yC) (O : yO) (s : ySm) : Prop := ∀ (v0 : Value) (xs : List Int32), yVO W (zt v0) (zG xs) T O s
abbrev yw (T : List yC) (s : ySm) : Prop := yx yW T s
abbrev yv (s : ySm) : Prop := yw yT s
theorem yw_n {W : List Nat} {T : List yC} : ∀ s ∈ ([] : List ySm), yx W T s := fun s h => by cases h
theorem yw_c {W : List Nat} {T : List yC} {s : ySm} {r : List ySm} (h : yx W T s) (k : ∀ u ∈ r, yx W T u) : ∀ u ∈ s :: r, yx W T u := fun u hu => by
  rcases List.mem_cons.mp hu with rfl | hu
  · exact h
  · exact k u hu
theorem ywo_of {W : List Nat} {T : List yC} {Sm : List ySm} {s : ySm} {K : yK} {Hs : List yH} {Ho : List (Nat × yO)} {R : Int} {n : Nat} {O : yO} (hS : ∀ u ∈ Sm, yx W T u) (h : yck W zcd0 zNLf zHN yTg T Sm s K Hs ykp Ho R n O = true) : yxo W T O s := fun v0 xs => yck_sound (fun m ci f hk => ykp_spec v0 m ci f hk) (zt_nl v0) (zt_hn v0) (zcd0_sub v0) (yg_ok xs) (fun u hu => hS u hu v0 xs) h
theorem yw_of {W : List Nat} {T : List yC} {Sm : List ySm} {s : ySm} {K : yK} {Hs : List yH} {Ho : List (Nat × yO)} {R : Int} {n : Nat} (hS : ∀ u ∈ Sm, yx W T u) (h : yck W zcd0 zNLf zHN yTg T Sm s K Hs ykp Ho R n [] = true) : yx W T s := fun v0 xs vs X hf hM => ywo_of hS h v0 xs vs X hf hM (fun e he => by cases he)
theorem yw_up {W : List Nat} {T T' : List yC} {s : ySm} (h : yR W T T') (hv : yx W T s) : yx W T' s := fun v0 xs => yV_up h (hv v0 xs)
theorem yw_W {W W' : List Nat} {T : List yC} {s : ySm} (h : (W.all fun k => W'.elem k) = true) (hv : yx W T s) : yx W' T s := fun v0 xs => yV_W (fun k hk => List.elem_iff.mp (List.all_eq_true.mp h k hk)) (hv v0 xs)
/-- a wider answer -/
def yrle (ro ro' : Option yA) : Bool := yemp ro || (match ro, ro' with
  | some a, some b => yle a b
  | none, none => true
  | _, _ => false)
theorem yrle_sound {ro ro' : Option yA} {r : Option Value} (h : yrle ro ro' = true) (hr : yro ro r) : yro ro' r := by
  unfold yrle at h
  rw [Bool.or_eq_true] at h
  rcases h with h | h
  · exact (yemp_spec h hr).elim
  · split at h
    · cases r with
      | none => exact hr.elim
      | some v => exact yle_sound h hr
    · exact hr
    · cases h
theorem yxo_ro {W : List Nat} {T : List yC} {O : yO} {m : Nat} {ps : List yA} {ro : Option yA} (ro' : Option yA) (hv : yxo W T O (m, ps, ro)) (h : yrle ro ro' = true) : yxo W T O (m, ps, ro') := fun v0 xs vs X hf hM hO => zwp_mono (hv v0 xs vs X hf hM hO) fun o X' hq => by
  cases o with
  | inl r => exact ⟨yrle_sound h hq.1, hq.2⟩
  | inr x => exact hq
theorem yx_ro {W : List Nat} {T : List yC} {m : Nat} {ps : List yA} {ro : Option yA} (ro' : Option yA) (hv : yx W T (m, ps, ro)) (h : yrle ro ro' = true) : yx W T (m, ps, ro') := fun v0 xs vs X hf hM => zwp_mono (hv v0 xs vs X hf hM) fun o X' hq => by
  cases o with
  | inl r => exact ⟨yrle_sound h hq.1, hq.2⟩
  | inr x => exact hq
/-- an int parameter in pieces -/
theorem yfa_i {as bs : List yA} {q : Int × Int} : ∀ {vs : List Value}, yfa (as ++ .inl q :: bs) vs → ∃ z : Int, q.1 ≤ z ∧ z ≤ q.2 ∧ ∀ q' : Int × Int, q'.1 ≤ z → z ≤ q'.2 → yfa (as ++ .inl q' :: bs) vs := by
  induction as with
  | nil =>
    intro vs h
    cases vs with
    | nil => exact h.elim
    | cons v vs =>
      obtain ⟨⟨x, e, h1, h2⟩, h3⟩ := h
      exact ⟨x.toInt, h1, h2, fun q' k1 k2 => ⟨⟨x, e, k1, k2⟩, h3⟩⟩
  | cons a as ih =>
    intro vs h
    cases vs with
    | nil => exact h.elim
    | cons v vs =>
      obtain ⟨z, h1, h2, h3⟩ := ih h.2
      exact ⟨z, h1, h2, fun q' k1 k2 => ⟨h.1, h3 q' k1 k2⟩⟩
theorem yx_i3 {W : List Nat} {T : List yC} {m : Nat} {ro : Option yA} (as : List yA) {bs : List yA} {k k' : Int} (hk : k' = k + 1) (h1 : yx W T (m, as ++ .inl (0, k) :: bs, ro)) (h2 : yx W T (m, as ++ .inl (-2147483648, -1) :: bs, ro)) (h3 : yx W T (m, as ++ .inl (k', 2147483647) :: bs, ro)) : yx W T (m, as ++ .inl ytop :: bs, ro) := fun v0 xs vs X hf hM => by
  obtain ⟨z, e1, e2, e3⟩ := yfa_i hf
  by_cases c1 : z < 0
  · exact h2 v0 xs vs X (e3 _ e1 (by dsimp only; omega)) hM
  · by_cases c2 : z ≤ k
    · exact h1 v0 xs vs X (e3 _ (by dsimp only; omega) c2) hM
    · exact h3 v0 xs vs X (e3 _ (by dsimp only; omega) e2) hM
theorem yx_i2 {W : List Nat} {T : List yC} {m : Nat} {ro : Option yA} (as : List yA) {bs : List yA} (h2 : yx W T (m, as ++ .inl (-2147483648, -1) :: bs, ro)) (h3 : yx W T (m, as ++ .inl (0, 2147483647) :: bs, ro)) : yx W T (m, as ++ .inl ytop :: bs, ro) := fun v0 xs vs X hf hM => by
  obtain ⟨z, e1, e2, e3⟩ := yfa_i hf
  by_cases c1 : z < 0
  · exact h2 v0 xs vs X (e3 _ e1 (by dsimp only; omega)) hM
  · exact h3 v0 xs vs X (e3 _ (by dsimp only; omega) e2) hM
/-- a small int parameter, value by value -/
theorem yx_iN {W : List Nat} {T : List yC} {m : Nat} {ro : Option yA} (as : List yA) {bs : List yA} {lo hi : Int} (h : ∀ z : Int, lo ≤ z → z ≤ hi → yx W T (m, as ++ .inl (z, z) :: bs, ro)) : yx W T (m, as ++ .inl (lo, hi) :: bs, ro) := fun v0 xs vs X hf hM => by
  obtain ⟨z, e1, e2, e3⟩ := yfa_i hf
  exact h z e1 e2 v0 xs vs X (e3 (z, z) (Int.le_refl _) (Int.le_refl _)) hM
/-- an int field in two pieces -/
theorem yM_o {T : List yC} {M : List zE} {j ci b : Nat} {as : List yA} {lo hi : Int} (hM : yM T M) (ht : T[j]? = some (.inl (ci, as))) (ha : as[b]? = some (.inl (lo, hi))) : ∃ z : Int, lo ≤ z ∧ z ≤ hi ∧ ∀ l h : Int, l ≤ z → z ≤ h → yo [(j + 50, ci, b, l, h)] M := by
  obtain ⟨c, hc, hok⟩ := hM.2 j _ ht
  match c, hok with
  | .inl o, hok =>
    obtain ⟨h1, h2, h3⟩ := hok
    have hb : b < o.2.length := by rw [← h2]; exact (List.getElem?_eq_some_iff.mp ha).1
    obtain ⟨x, e, l1, l2⟩ := h3 b _ o.2[b] ha (List.getElem?_eq_getElem hb)
    refine ⟨x.toInt, l1, l2, fun l h k1 k2 d hd => ?_⟩
    rcases List.mem_cons.mp hd with rfl | hd
    · refine ⟨Nat.le_add_left 50 j, o.2, x, ?_, ?_, k1, k2⟩
      · show M[j + 50 - 50]? = some (.inl (ci, o.2))
        rw [Nat.add_sub_cancel, hc, show ci = o.1 from h1]
      · show o.2[b]? = some (.int x)
        rw [List.getElem?_eq_getElem hb, e]
    · cases hd
theorem yx_f2 {W : List Nat} {T : List yC} {s : ySm} (j : Nat) {ci b : Nat} {as : List yA} {lo hi l1 h1 l2 h2 : Int} (k1 : yxo W T [(j + 50, ci, b, l1, h1)] s) (k2 : yxo W T [(j + 50, ci, b, l2, h2)] s) (ht : T[j]? = some (.inl (ci, as))) (ha : as[b]? = some (.inl (lo, hi))) (hc : l1 ≤ lo ∧ l2 ≤ h1 + 1 ∧ hi ≤ h2) : yx W T s := fun v0 xs vs X hf hM => by
  obtain ⟨z, e1, e2, e3⟩ := yM_o hM ht ha
  by_cases c1 : z ≤ h1
  · exact k1 v0 xs vs X hf hM (e3 l1 h1 (by omega) c1)
  · exact k2 v0 xs vs X hf hM (e3 l2 h2 (by omega) (by omega))
/-- a whole table of closer types, by one test -/
def yrB (W : List Nat) (T T' : List yC) : Bool := decide (T.length = T'.length) && (List.range T.length).all fun j => match T[j]?, T'[j]? with
  | some t, some t' => ysubc t' t && (!(W.elem (j + 50)) || ysubc t t')
  | _, _ => false
theorem yrB_spec {W : List Nat} {T T' : List yC} (h : yrB W T T' = true) : yR W T T' := by
  simp only [yrB, Bool.and_eq_true, decide_eq_true_eq] at h
  refine ⟨h.1, fun j t ht => ?_⟩
  have hj : j < T.length := (List.getElem?_eq_some_iff.mp ht).1
  have h1 := List.all_eq_true.mp h.2 j (List.mem_range.mpr hj)
  split at h1
  · rename_i u u' e1 e2
    cases ht.symm.trans e1
    simp only [Bool.or_eq_true, Bool.and_eq_true] at h1
    refine ⟨u', e2, fun c hc => ysubc_sound h1.1 hc, ?_⟩
    rcases h1.2 with h2 | h2
    · exact Or.inr (by simpa using h2)
    · exact Or.inl fun c hc => ysubc_sound h2 hc
  · cases h1
theorem yv_split {m : Nat} {n : Nat} {as : List yA} {ro : Option yA} (h : ∀ p : Nat, p < n → yv (m, .inl ((p : Int), (p : Int)) :: as, ro)) : yv (m, .inl (0, (n : Int) - 1) :: as, ro) := by
  intro v0 xs vs X hf hM
  cases vs with
  | nil => exact hf.elim
  | cons v vs =>
    obtain ⟨⟨x, e, h1, h2⟩, hr⟩ := hf
    dsimp only at h1 h2
    have hx : ((x.toInt.toNat : Nat) : Int) = x.toInt := by omega
    refine h x.toInt.toNat (by omega) v0 xs (v :: vs) X ⟨⟨x, e, ?_, ?_⟩, hr⟩ hM
    · dsimp only; omega
    · dsimp only; omega
end
section
/-! Certificates of the class (printed by crt_main.py). -/
def yc92 : ySm := (92, [.inr (.inr [114]), .inr (.inr [124, 126, 128, 130, 132, 134, 136, 138, 140, 142, 144, 146, 148, 150, 152, 154, 156, 158, 160, 162, 164, 166, 168, 170, 172, 174]), .inl (0, 128)], none)
theorem yv92 : yx yW (yT) yc92 := yw_of (Sm := []) (K := [(5, 8, 1), (5, 8, 1)]) (Hs := [(8, [(0, .inr (.inr [114])), (1, .inr (.inr [124, 126, 128, 130, 132, 134, 136, 138, 140, 142, 144, 146, 148, 150, 152, 154, 156, 158, 160, 162, 164, 166, 168, 170, 172, 174])), (2, .inl (0, 128)), (3, .inl ytop), (4, .inl ytop), (5, .inl (0, 8))], 9, [true, false]), (52, [(0, .inr (.inr [114])), (1, .inr (.inr [124, 126, 128, 130, 132, 134, 136, 138, 140, 142, 144, 146, 148, 150, 152, 154, 156, 158, 160, 162, 164, 166, 168, 170, 172, 174])), (2, .inl (0, 128)), (3, .inl ytop), (4, .inl ytop), (5, .inl (0, 8))], 0, [false, true])]) (Ho := []) (R := 18) (n := 49) yw_n (by decide +kernel)
def yc93 : ySm := (93, [.inr (.inr [114]), .inr (.inr [124, 126, 128, 130, 132, 134, 136, 138, 140, 142, 144, 146, 148, 150, 152, 154, 156, 158, 160, 162, 164, 166, 168, 170, 172, 174]), .inl (0, 128)], some (.inl ytop))
theorem yv93 : yx yW (yT) yc93 := yw_of (Sm := [yc92]) (K := [(4, 8, 1000000), (6, 8, 1)]) (Hs := [(11, [(0, .inr (.inr [114])), (1, .inr (.inr [124, 126, 128, 130, 132, 134, 136, 138, 140, 142, 144, 146, 148, 150, 152, 154, 156, 158, 160, 162, 164, 166, 168, 170, 172, 174])), (2, .inl (0, 128)), (3, .inl ytop), (4, .inl (0, 8))], 9, [true, false]), (24, [(0, .inr (.inr [114])), (1, .inr (.inr [124, 126, 128, 130, 132, 134, 136, 138, 140, 142, 144, 146, 148, 150, 152, 154, 156, 158, 160, 162, 164, 166, 168, 170, 172, 174])), (2, .inl (0, 128)), (3, .inl ytop), (4, .inl (0, 7)), (5, .inl ytop), (6, .inl (0, 8))], 0, [true, true])]) (Ho := []) (R := 8000010) (n := 18) (yw_c yv92 yw_n) (by decide +kernel)
def yc94 : ySm := (94, [.inl (0, 99), .inl (0, 99), .inl (0, 3)], some (.inl (0, 1)))
theorem yv94 : yx yW (yT) yc94 := yw_of (Sm := []) (K := []) (Hs := []) (Ho := []) (R := 0) (n := 27) yw_n (by decide +kernel)
def yc95 : ySm := (95, [.inr (.inr [124, 126, 128, 130, 132, 134, 136, 138, 140, 142, 144, 146, 148, 150, 152, 154, 156, 158, 160, 162, 164, 166, 168, 170, 172, 174]), .inl (0, 128), .inl (0, 2)], some (.inl ytop))
theorem yv95 : yx yW (yT) yc95 := yw_of (Sm := [yc94]) (K := [(4, 8, 1000000), (7, 8, 1)]) (Hs := [(5, [(0, .inr (.inr [124, 126, 128, 130, 132, 134, 136, 138, 140, 142, 144, 146, 148, 150, 152, 154, 156, 158, 160, 162, 164, 166, 168, 170, 172, 174])), (1, .inl (0, 128)), (2, .inl (0, 2)), (3, .inl ytop), (4, .inl (0, 8))], 9, [true, false]), (30, [(0, .inr (.inr [124, 126, 128, 130, 132, 134, 136, 138, 140, 142, 144, 146, 148, 150, 152, 154, 156, 158, 160, 162, 164, 166, 168, 170, 172, 174])), (1, .inl (0, 128)), (2, .inl (0, 2)), (3, .inl ytop), (4, .inl (0, 7)), (5, .inl (0, 3)), (6, .inl (0, 1)), (7, .inl (0, 8))], 0, [true, true])]) (Ho := []) (R := 8000010) (n := 30) (yw_c yv94 yw_n) (by decide +kernel)
def yc96 : ySm := (96, [.inr (.inr [124, 126, 128, 130, 132, 134, 136, 138, 140, 142, 144, 146, 148, 150, 152, 154, 156, 158, 160, 162, 164, 166, 168, 170, 172, 174]), .inl (0, 128), .inl ytop], some (.inl ytop))
theorem yv96 : yx yW (yT) yc96 := yw_of (Sm := []) (K := [(4, 8, 1)]) (Hs := [(5, [(0, .inr (.inr [124, 126, 128, 130, 132, 134, 136, 138, 140, 142, 144, 146, 148, 150, 152, 154, 156, 158, 160, 162, 164, 166, 168, 170, 172, 174])), (1, .inl (0, 128)), (2, .inl ytop), (3, .inl ytop), (4, .inl (0, 8))], 0, [true])]) (Ho := []) (R := 9) (n := 23) yw_n (by decide +kernel)
def yc97 : ySm := (97, [.inr (.inr [114]), .inl (0, 12), .inr (.inr [124, 126, 128, 130, 132, 134, 136, 138, 140, 142, 144, 146, 148, 150, 152, 154, 156, 158, 160, 162, 164, 166, 168, 170, 172, 174]), .inl (0, 128)], some (.inl ytop))
theorem yv97 : yx yW (yT) yc97 := yw_of (Sm := [yc93, yc95, yc96]) (K := []) (Hs := []) (Ho := []) (R := 0) (n := 11) (yw_c yv93 (yw_c yv95 (yw_c yv96 yw_n))) (by decide +kernel)
def yc92p : ySm := (92, [.inr (.inr [114]), .inr (.inr [175]), .inl (0, 0)], none)
theorem yv92p : yx yW (yT) yc92p := yw_of (Sm := []) (K := [(5, 8, 1), (5, 8, 1)]) (Hs := [(8, [(0, .inr (.inr [114])), (1, .inr (.inr [175])), (2, .inl (0, 0)), (3, .inl ytop), (4, .inl ytop), (5, .inl (0, 8))], 9, [true, false]), (52, [(0, .inr (.inr [114])), (1, .inr (.inr [175])), (2, .inl (0, 0)), (3, .inl ytop), (4, .inl ytop), (5, .inl (0, 8))], 0, [false, true])]) (Ho := []) (R := 18) (n := 49) yw_n (by decide +kernel)
def yc93p : ySm := (93, [.inr (.inr [114]), .inr (.inr [175]), .inl (0, 0)], some (.inl ytop))
theorem yv93p : yx yW (yT) yc93p := yw_of (Sm := [yc92p]) (K := [(4, 8, 1000000), (6, 8, 1)]) (Hs := [(11, [(0, .inr (.inr [114])), (1, .inr (.inr [175])), (2, .inl (0, 0)), (3, .inl ytop), (4, .inl (0, 8))], 9, [true, false]), (24, [(0, .inr (.inr [114])), (1, .inr (.inr [175])), (2, .inl (0, 0)), (3, .inl ytop), (4, .inl (0, 7)), (5, .inl ytop), (6, .inl (0, 8))], 0, [true, true])]) (Ho := []) (R := 8000010) (n := 18) (yw_c yv92p yw_n) (by decide +kernel)
def yc95p : ySm := (95, [.inr (.inr [175]), .inl (0, 0), .inl (0, 2)], some (.inl ytop))
theorem yv95p : yx yW (yT) yc95p := yw_of (Sm := [yc94]) (K := [(4, 8, 1000000), (7, 8, 1)]) (Hs := [(5, [(0, .inr (.inr [175])), (1, .inl (0, 0)), (2, .inl (0, 2)), (3, .inl ytop), (4, .inl (0, 8))], 9, [true, false]), (30, [(0, .inr (.inr [175])), (1, .inl (0, 0)), (2, .inl (0, 2)), (3, .inl ytop), (4, .inl (0, 7)), (5, .inl (0, 3)), (6, .inl (0, 1)), (7, .inl (0, 8))], 0, [true, true])]) (Ho := []) (R := 8000010) (n := 30) (yw_c yv94 yw_n) (by decide +kernel)
def yc96p : ySm := (96, [.inr (.inr [175]), .inl (0, 0), .inl ytop], some (.inl ytop))
theorem yv96p : yx yW (yT) yc96p := yw_of (Sm := []) (K := [(4, 8, 1)]) (Hs := [(5, [(0, .inr (.inr [175])), (1, .inl (0, 0)), (2, .inl ytop), (3, .inl ytop), (4, .inl (0, 8))], 0, [true])]) (Ho := []) (R := 9) (n := 23) yw_n (by decide +kernel)
def yc97p : ySm := (97, [.inr (.inr [114]), .inl (0, 12), .inr (.inr [175]), .inl (0, 0)], some (.inl ytop))
theorem yv97p : yx yW (yT) yc97p := yw_of (Sm := [yc93p, yc95p, yc96p]) (K := []) (Hs := []) (Ho := []) (R := 0) (n := 11) (yw_c yv93p (yw_c yv95p (yw_c yv96p yw_n))) (by decide +kernel)
def yc99 : ySm := (99, [.inr (.inr [113])], none)
theorem yv99 : yx yW (yT) yc99 := yw_of (Sm := []) (K := [(1, 8, 1)]) (Hs := [(2, [(0, .inr (.inr [113])), (1, .inl (0, 8))], 0, [true])]) (Ho := []) (R := 9) (n := 18) yw_n (by decide +kernel)
def yc101 : ySm := (101, [.inl (0, 399), .inl (0, 3)], some (.inl (0, 399)))
theorem yv101 : yx yW (yT) yc101 := yw_of (Sm := []) (K := []) (Hs := []) (Ho := []) (R := 0) (n := 14) yw_n (by decide +kernel)
def yc103 : ySm := (103, [.inr (.inr [124, 126, 128, 130, 132, 134, 136, 138, 140, 142, 144, 146, 148, 150, 152, 154, 156, 158, 160, 162, 164, 166, 168, 170, 172, 174]), .inl (0, 120), .inl (0, 7), .inl (0, 7)], some (.inl (0, 1)))
theorem yv103 : yx yW (yT) yc103 := yw_of (Sm := []) (K := []) (Hs := []) (Ho := []) (R := 0) (n := 91) yw_n (by decide +kernel)
def yc91p : ySm := (91, [.inr (.inr [123, 125, 127, 129, 131, 133, 135, 137, 139, 141, 143, 145, 147, 149, 151, 153, 155, 157, 159, 161, 163, 165, 167, 169, 171, 173]), .inr (.inr [175]), .inl (0, 0)], none)
theorem yv91p : yx yW (yT) yc91p := yw_of (Sm := []) (K := []) (Hs := []) (Ho := []) (R := 0) (n := 13) yw_n (by decide +kernel)
def yc106p : ySm := (106, [.inr (.inr [123, 125, 127, 129, 131, 133, 135, 137, 139, 141, 143, 145, 147, 149, 151, 153, 155, 157, 159, 161, 163, 165, 167, 169, 171, 173]), .inl (0, 16), .inr (.inr [175]), .inl (0, 0)], none)
theorem yv106p : yx yW (yT) yc106p := yw_of (Sm := []) (K := []) (Hs := []) (Ho := []) (R := 0) (n := 12) yw_n (by decide +kernel)
def yc91s : ySm := (91, [.inr (.inr [123, 125, 127, 129, 131, 133, 135, 137, 139, 141, 143, 145, 147, 149, 151, 153, 155, 157, 159, 161, 163, 165, 167, 169, 171, 173]), .inr (.inr [176]), .inl (0, 0)], none)
theorem yv91s : yx yW (yT) yc91s := yw_of (Sm := []) (K := []) (Hs := []) (Ho := []) (R := 0) (n := 13) yw_n (by decide +kernel)
def yc106s : ySm := (106, [.inr (.inr [123, 125, 127, 129, 131, 133, 135, 137, 139, 141, 143, 145, 147, 149, 151, 153, 155, 157, 159, 161, 163, 165, 167, 169, 171, 173]), .inl (0, 16), .inr (.inr [176]), .inl (0, 0)], none)
theorem yv106s : yx yW (yT) yc106s := yw_of (Sm := []) (K := []) (Hs := []) (Ho := []) (R := 0) (n := 12) yw_n (by decide +kernel)
def yc91w : ySm := (91, [.inr (.inr [123, 125, 127, 129, 131, 133, 135, 137, 139, 141, 143, 145, 147, 149, 151, 153, 155, 157, 159, 161, 163, 165, 167, 169, 171, 173]), .inr (.inr [118]), .inl (0, 1240)], none)
theorem yv91w : yx yW (yT) yc91w := yw_of (Sm := []) (K := []) (Hs := []) (Ho := []) (R := 0) (n := 13) yw_n (by decide +kernel)
def yc106w : ySm := (106, [.inr (.inr [123, 125, 127, 129, 131, 133, 135, 137, 139, 141, 143, 145, 147, 149, 151, 153, 155, 157, 159, 161, 163, 165, 167, 169, 171, 173]), .inl (0, 16), .inr (.inr [118]), .inl (0, 1240)], none)
theorem yv106w : yx yW (yT) yc106w := yw_of (Sm := []) (K := []) (Hs := []) (Ho := []) (R := 0) (n := 12) yw_n (by decide +kernel)
def yc157p : ySm := (157, [.inr (.inr [175]), .inl (0, 0)], some (.inl (0, 1)))
theorem yv157p : yx yW (yT) yc157p := yw_of (Sm := []) (K := [(2, 8, 1)]) (Hs := [(2, [(0, .inr (.inr [175])), (1, .inl (0, 0)), (2, .inl (0, 8))], 0, [true])]) (Ho := []) (R := 9) (n := 23) yw_n (by decide +kernel)
def yc157 : ySm := (157, [.inr (.inr [124, 126, 128, 130, 132, 134, 136, 138, 140, 142, 144, 146, 148, 150, 152, 154, 156, 158, 160, 162, 164, 166, 168, 170, 172, 174]), .inl (0, 128)], some (.inl (0, 1)))
theorem yv157 : yx yW (yT) yc157 := yw_of (Sm := []) (K := [(2, 8, 1)]) (Hs := [(2, [(0, .inr (.inr [124, 126, 128, 130, 132, 134, 136, 138, 140, 142, 144, 146, 148, 150, 152, 154, 156, 158, 160, 162, 164, 166, 168, 170, 172, 174])), (1, .inl (0, 128)), (2, .inl (0, 8))], 0, [true])]) (Ho := []) (R := 9) (n := 23) yw_n (by decide +kernel)
def yc158 : ySm := (158, [.inr (.inr [123, 125, 127, 129, 131, 133, 135, 137, 139, 141, 143, 145, 147, 149, 151, 153, 155, 157, 159, 161, 163, 165, 167, 169, 171, 173])], some (.inl (0, 1)))
theorem yv158 : yx yW (yT) yc158 := yw_of (Sm := [yc157]) (K := []) (Hs := []) (Ho := []) (R := 0) (n := 10) (yw_c yv157 yw_n) (by decide +kernel)
def yc142 : ySm := (142, [.inr (.inr [123, 125, 127, 129, 131, 133, 135, 137, 139, 141, 143, 145, 147, 149, 151, 153, 155, 157, 159, 161, 163, 165, 167, 169, 171, 173]), .inl (0, 16), .inl (0, 7)], some (.inl (0, 399)))
theorem yv142 : yx yW (yT) yc142 := yw_of (Sm := []) (K := []) (Hs := []) (Ho := []) (R := 0) (n := 11) yw_n (by decide +kernel)
def yc172 : ySm := (172, [.inr (.inr [123, 125, 127, 129, 131, 133, 135, 137, 139, 141, 143, 145, 147, 149, 151, 153, 155, 157, 159, 161, 163, 165, 167, 169, 171, 173]), .inr (.inr [123, 125, 127, 129, 131, 133, 135, 137, 139, 141, 143, 145, 147, 149, 151, 153, 155, 157, 159, 161, 163, 165, 167, 169, 171, 173])], some (.inl (0, 1)))
theorem yv172 : yx yW (yT) yc172 := yw_of (Sm := [yc142]) (K := [(2, 8, 1)]) (Hs := [(2, [(0, .inr (.inr [123, 125, 127, 129, 131, 133, 135, 137, 139, 141, 143, 145, 147, 149, 151, 153, 155, 157, 159, 161, 163, 165, 167, 169, 171, 173])), (1, .inr (.inr [123, 125, 127, 129, 131, 133, 135, 137, 139, 141, 143, 145, 147, 149, 151, 153, 155, 157, 159, 161, 163, 165, 167, 169, 171, 173])), (2, .inl (0, 8))], 0, [true])]) (Ho := []) (R := 9) (n := 19) (yw_c yv142 yw_n) (by decide +kernel)
def yc149 : ySm := (149, [.inr (.inr [175]), .inl (0, 10), .inl (0, 10), .inl (3, 4), .inl (0, 1)], some (.inl ytop))
theorem yv149 : yx yW (yT) yc149 := yw_of (Sm := []) (K := [(6, 8, 1)]) (Hs := [(6, [(0, .inr (.inr [175])), (1, .inl (0, 10)), (2, .inl (0, 10)), (3, .inl (3, 4)), (4, .inl (0, 1)), (5, .inl ytop), (6, .inl (0, 8))], 0, [true])]) (Ho := []) (R := 9) (n := 51) yw_n (by decide +kernel)
def yc150 : ySm := (150, [.inr (.inr [175])], some (.inl (0, 4)))
theorem yv150 : yx yW (yT) yc150 := yw_of (Sm := [yc149]) (K := [(5, 8, 1)]) (Hs := [(14, [(0, .inr (.inr [175])), (1, .inl (0, 10)), (2, .inl (0, 9)), (3, .inl (0, 10)), (4, .inl (0, 9)), (5, .inl (0, 8))], 0, [true])]) (Ho := []) (R := 9) (n := 50) (yw_c yv149 yw_n) (by decide +kernel)
def yc151 : ySm := (151, [.inr (.inr [50])], some (.inl (0, 4)))
theorem yv151 : yx yW (yT) yc151 := yw_of (Sm := [yc150]) (K := []) (Hs := []) (Ho := []) (R := 0) (n := 6) (yw_c yv150 yw_n) (by decide +kernel)
end
