/-! the texts of a list as tokens (wip/p26/gen99z.py) -/
section LZ
def cI (l : Its) : List Int := (txt l).map (fun x : Nat => (x : Int))
theorem txt_app : ∀ (a b : Its), txt (a ++ b) = txt a ++ txt b
  | [], b => rfl
  | (b0, k, v) :: a, b => by
    show bb b0 ++ (ib k v ++ txt (a ++ b)) = (bb b0 ++ (ib k v ++ txt a)) ++ txt b
    rw [txt_app a b, List.append_assoc, List.append_assoc]
theorem cI_app (a b : Its) : cI (a ++ b) = cI a ++ cI b := by
  unfold cI
  rw [txt_app, List.map_append]
theorem cI_n : cI [] = [] := rfl
theorem cI_c (b k v : Nat) (l : Its) : cI ((b, k, v) :: l) = (bb b).map (fun x : Nat => (x : Int)) ++ ((ib k v).map (fun x : Nat => (x : Int)) ++ cI l) := by
  show (bb b ++ (ib k v ++ txt l)).map _ = _
  rw [List.map_append, List.map_append]
  rfl
theorem bbI0 : (bb 0).map (fun x : Nat => (x : Int)) = [] := rfl
theorem bbI1 : (bb 1).map (fun x : Nat => (x : Int)) = [32] := rfl
theorem bbI2 : (bb 2).map (fun x : Nat => (x : Int)) = [10] := rfl
theorem ibI (v : Nat) : (ib 48 v).map (fun x : Nat => (x : Int)) = dg v := by
  show (dgN v).map _ = dg v
  unfold dgN dg
  split
  · rfl
  · split
    · rfl
    · rfl
theorem ibN (c k : Nat) (hk : k < 10) : (ib 47 (c * 256 + 48 + k)).map (fun x : Nat => (x : Int)) = (c : Int) :: dg k := by
  show [(((c * 256 + 48 + k) / 256 : Nat) : Int), (((c * 256 + 48 + k) % 256 : Nat) : Int)] = _
  unfold dg
  rw [if_pos hk, show (c * 256 + 48 + k) / 256 = c by omega, show (c * 256 + 48 + k) % 256 = 48 + k by omega]
  rfl
theorem ibN1 (k : Nat) (hk : k < 10) : (ib 47 (115 * 256 + 48 + k)).map (fun x : Nat => (x : Int)) = 115 :: dg k := ibN 115 k hk
theorem ibN2 (k : Nat) (hk : k < 10) : (ib 47 (103 * 256 + 48 + k)).map (fun x : Nat => (x : Int)) = 103 :: dg k := ibN 103 k hk
theorem ibN3 (k : Nat) (hk : k < 10) : (ib 47 (116 * 256 + 48 + k)).map (fun x : Nat => (x : Int)) = 116 :: dg k := ibN 116 k hk
theorem ibK0 : (ib 0 0).map (fun x : Nat => (x : Int)) = [115, 116, 114, 101, 116, 99, 104] := rfl
theorem ibK1 : (ib 1 0).map (fun x : Nat => (x : Int)) = [109, 105, 108, 101, 115] := rfl
theorem ibK2 : (ib 2 0).map (fun x : Nat => (x : Int)) = [115, 111, 102, 116] := rfl
theorem ibK3 : (ib 3 0).map (fun x : Nat => (x : Int)) = [103, 97, 116, 101] := rfl
theorem ibK4 : (ib 4 0).map (fun x : Nat => (x : Int)) = [97, 116] := rfl
theorem ibK5 : (ib 5 0).map (fun x : Nat => (x : Int)) = [116, 111, 108, 108] := rfl
theorem ibK6 : (ib 6 0).map (fun x : Nat => (x : Int)) = [116, 114, 97, 102, 102, 105, 99] := rfl
theorem ibK7 : (ib 7 0).map (fun x : Nat => (x : Int)) = [119, 101, 105, 103, 104, 116] := rfl
theorem ibK8 : (ib 8 0).map (fun x : Nat => (x : Int)) = [119, 104, 101, 101, 108, 115] := rfl
theorem ibK9 : (ib 9 0).map (fun x : Nat => (x : Int)) = [102, 114, 111, 109] := rfl
theorem ibK10 : (ib 10 0).map (fun x : Nat => (x : Int)) = [116, 111] := rfl
theorem ibK11 : (ib 11 0).map (fun x : Nat => (x : Int)) = [101, 118, 101, 114, 121] := rfl
theorem ibK12 : (ib 12 0).map (fun x : Nat => (x : Int)) = [102, 114, 101, 101] := rfl
theorem ibK13 : (ib 13 0).map (fun x : Nat => (x : Int)) = [102, 97, 114, 109] := rfl
theorem ibK14 : (ib 14 0).map (fun x : Nat => (x : Int)) = [102, 111, 114] := rfl
theorem ibK15 : (ib 15 0).map (fun x : Nat => (x : Int)) = [109, 101, 110, 100] := rfl
theorem ibK16 : (ib 16 0).map (fun x : Nat => (x : Int)) = [119, 105, 116, 104] := rfl
theorem ibK17 : (ib 17 0).map (fun x : Nat => (x : Int)) = [119, 104, 101, 110] := rfl
theorem ibK18 : (ib 18 0).map (fun x : Nat => (x : Int)) = [100, 97, 121] := rfl
theorem ibK19 : (ib 19 0).map (fun x : Nat => (x : Int)) = [99, 111, 105, 110, 115] := rfl
theorem ibK20 : (ib 20 0).map (fun x : Nat => (x : Int)) = [119, 111, 114, 115, 116] := rfl
theorem ibK21 : (ib 21 0).map (fun x : Nat => (x : Int)) = [99, 111, 110, 100, 105, 116, 105, 111, 110] := rfl
theorem ibK22 : (ib 22 0).map (fun x : Nat => (x : Int)) = [116, 97, 107, 101, 110] := rfl
theorem ibK23 : (ib 23 0).map (fun x : Nat => (x : Int)) = [103, 97, 105, 110] := rfl
theorem ibK24 : (ib 24 0).map (fun x : Nat => (x : Int)) = [112, 97, 115, 115, 101, 100] := rfl
theorem ibK25 : (ib 25 0).map (fun x : Nat => (x : Int)) = [102, 97, 114, 109, 101, 100] := rfl
theorem ibK26 : (ib 26 0).map (fun x : Nat => (x : Int)) = [98, 114, 111, 107, 101, 110] := rfl
theorem ibK27 : (ib 27 0).map (fun x : Nat => (x : Int)) = [110, 111, 116] := rfl
theorem ibK28 : (ib 28 0).map (fun x : Nat => (x : Int)) = [97, 110, 100] := rfl
theorem ibK29 : (ib 29 0).map (fun x : Nat => (x : Int)) = [111, 114] := rfl
theorem ibK30 : (ib 30 0).map (fun x : Nat => (x : Int)) = [109, 105, 110] := rfl
theorem ibK31 : (ib 31 0).map (fun x : Nat => (x : Int)) = [109, 97, 120] := rfl
theorem ibK32 : (ib 32 0).map (fun x : Nat => (x : Int)) = [40] := rfl
theorem ibK33 : (ib 33 0).map (fun x : Nat => (x : Int)) = [41] := rfl
theorem ibK34 : (ib 34 0).map (fun x : Nat => (x : Int)) = [91] := rfl
theorem ibK35 : (ib 35 0).map (fun x : Nat => (x : Int)) = [93] := rfl
theorem ibK36 : (ib 36 0).map (fun x : Nat => (x : Int)) = [59] := rfl
theorem ibK37 : (ib 37 0).map (fun x : Nat => (x : Int)) = [44] := rfl
theorem ibK38 : (ib 38 0).map (fun x : Nat => (x : Int)) = [43] := rfl
theorem ibK39 : (ib 39 0).map (fun x : Nat => (x : Int)) = [45] := rfl
theorem ibK40 : (ib 40 0).map (fun x : Nat => (x : Int)) = [42] := rfl
theorem ibK41 : (ib 41 0).map (fun x : Nat => (x : Int)) = [47] := rfl
theorem ibK42 : (ib 42 0).map (fun x : Nat => (x : Int)) = [60] := rfl
theorem ibK43 : (ib 43 0).map (fun x : Nat => (x : Int)) = [62] := rfl
theorem ibK44 : (ib 44 0).map (fun x : Nat => (x : Int)) = [61] := rfl
theorem ibK45 : (ib 45 0).map (fun x : Nat => (x : Int)) = [60, 61] := rfl
theorem ibK46 : (ib 46 0).map (fun x : Nat => (x : Int)) = [62, 61] := rfl
theorem lbL113 : lb 113 = [115, 116, 114, 101, 116, 99, 104, 32, 115] := rfl
theorem lbL114 : lb 114 = [32, 109, 105, 108, 101, 115, 32] := rfl
theorem lbL115 : lb 115 = [32, 115, 111, 102, 116, 32] := rfl
theorem lbL116 : lb 116 = [59] := rfl
theorem lbL117 : lb 117 = [103, 97, 116, 101, 32, 103] := rfl
theorem lbL118 : lb 118 = [32, 97, 116, 32] := rfl
theorem lbL119 : lb 119 = [32, 116, 111, 108, 108, 32] := rfl
theorem lbL120 : lb 120 = [32, 59, 10] := rfl
theorem lbL121 : lb 121 = [116, 114, 97, 102, 102, 105, 99, 32, 116] := rfl
theorem lbL122 : lb 122 = [32, 119, 101, 105, 103, 104, 116, 32] := rfl
theorem lbL123 : lb 123 = [32, 119, 104, 101, 101, 108, 115, 32] := rfl
theorem lbL124 : lb 124 = [32, 102, 114, 111, 109, 32] := rfl
theorem lbL125 : lb 125 = [32, 116, 111, 32] := rfl
theorem lbL126 : lb 126 = [32, 101, 118, 101, 114, 121, 32] := rfl
theorem lbL127 : lb 127 = [102, 114, 101, 101, 32, 116] := rfl
theorem lbL128 : lb 128 = [32, 97, 116, 32, 103] := rfl
theorem lbL129 : lb 129 = [32, 119, 104, 101, 110, 32] := rfl
theorem lbL130 : lb 130 = [100, 97, 121, 62] := rfl
theorem lbL131 : lb 131 = [47, 52] := rfl
theorem lbL132 : lb 132 = [102, 97, 114, 109, 101, 100, 32, 103] := rfl
theorem lbL133 : lb 133 = [110, 111, 116, 32, 98, 114, 111, 107, 101, 110, 32, 115] := rfl
theorem lbL134 : lb 134 = [32, 111, 114, 32, 99, 111, 105, 110, 115, 62] := rfl
theorem lbL135 : lb 135 = [119, 111, 114, 115, 116, 32, 115] := rfl
theorem lbL136 : lb 136 = [60] := rfl
theorem lbL137 : lb 137 = [116, 97, 107, 101, 110, 32, 103] := rfl
theorem lbL138 : lb 138 = [62, 61] := rfl
theorem lbL139 : lb 139 = [42, 50, 32, 97, 110, 100, 32, 110, 111, 116, 32, 102, 97, 114, 109, 101, 100, 32, 103] := rfl
theorem lbL140 : lb 140 = [91, 99, 111, 110, 100, 105, 116, 105, 111, 110, 40] := rfl
theorem lbL141 : lb 141 = [41, 60] := rfl
theorem lbL142 : lb 142 = [32, 111, 114, 32, 100, 97, 121, 47, 50, 42, 50, 61, 100, 97, 121, 93, 97, 110, 100, 32, 112, 97, 115, 115, 101, 100, 32, 116] := rfl
theorem lbL143 : lb 143 = [103, 97, 105, 110, 32, 103] := rfl
theorem lbL144 : lb 144 = [60, 48] := rfl
theorem lbL145 : lb 145 = [47, 50, 42, 50, 61] := rfl
theorem lbL146 : lb 146 = [102, 97, 114, 109, 32, 103] := rfl
theorem lbL147 : lb 147 = [32, 102, 111, 114, 32] := rfl
theorem lbL148 : lb 148 = [109, 101, 110, 100, 32, 115] := rfl
theorem lbL149 : lb 149 = [32, 119, 105, 116, 104, 32] := rfl
theorem lbL150 : lb 150 = [] := rfl
theorem lbL151 : lb 151 = [99, 111, 105, 110, 115, 47, 57] := rfl
theorem lbL152 : lb 152 = [49, 48, 48, 45, 119, 111, 114, 115, 116, 32, 115] := rfl
theorem lbL153 : lb 153 = [109, 105, 110, 40, 99, 111, 110, 100, 105, 116, 105, 111, 110, 40] := rfl
theorem lbL154 : lb 154 = [41, 44] := rfl
theorem lbL155 : lb 155 = [41, 47, 51] := rfl
theorem lbL156 : lb 156 = [109, 97, 120, 40, 103, 97, 105, 110, 32, 103] := rfl
theorem lbL157 : lb 157 = [44, 48, 41, 43] := rfl
theorem lbL158 : lb 158 = [47, 57] := rfl
theorem lbL159 : lb 159 = [100, 97, 121, 45] := rfl
theorem dgL0 : dg 0 = [48] := rfl
theorem dgL2 : dg 2 = [50] := rfl
theorem dgL3 : dg 3 = [51] := rfl
theorem dgL4 : dg 4 = [52] := rfl
theorem dgL9 : dg 9 = [57] := rfl
theorem dgL100 : dg 100 = [49, 48, 48] := rfl
def strI (k a b : Nat) : Its := [(0, 0, 0), (1, 47, 115 * 256 + 48 + k), (1, 1, 0), (1, 48, a), (1, 2, 0), (1, 48, b), (0, 36, 0)]
def gtI (q k a b : Nat) : Its := [(q, 3, 0), (1, 47, 103 * 256 + 48 + k), (1, 4, 0), (1, 48, a), (1, 5, 0), (1, 48, b), (1, 36, 0)]
def trI (q k a b c e g : Nat) : Its := [(q, 6, 0), (1, 47, 116 * 256 + 48 + k), (1, 7, 0), (1, 48, a), (1, 8, 0), (1, 48, b), (1, 9, 0), (1, 48, c), (1, 10, 0), (1, 48, e), (1, 11, 0), (1, 48, g), (0, 36, 0)]
def sI (r : Nat → Nat) (k : Nat) : Its := if k = 0 then [(1, 48, (r 3))] else if k = 1 then [(1, 19, 0), (0, 41, 0), (0, 48, 9)] else if k = 2 then [(1, 48, 100), (0, 39, 0), (0, 20, 0), (1, 47, 115 * 256 + 48 + r 7)] else if k = 3 then [(1, 30, 0), (0, 32, 0), (0, 21, 0), (0, 32, 0), (0, 48, r 6), (0, 33, 0), (0, 37, 0), (0, 48, r 3), (0, 33, 0), (0, 41, 0), (0, 48, 3)] else if k = 4 then [(1, 31, 0), (0, 32, 0), (0, 23, 0), (1, 47, 103 * 256 + 48 + r 8), (0, 37, 0), (0, 48, 0), (0, 33, 0), (0, 38, 0), (0, 48, r 3), (0, 41, 0), (0, 48, 9)] else [(1, 18, 0), (0, 39, 0), (0, 48, r 3)]
def tI (r : Nat → Nat) (k : Nat) : Its := if k = 0 then [(1, 18, 0), (0, 43, 0), (0, 48, r 5), (0, 41, 0), (0, 48, 4)] else if k = 1 then [(1, 25, 0), (1, 47, 103 * 256 + 48 + r 8)] else if k = 2 then [(1, 27, 0), (1, 26, 0), (1, 47, 115 * 256 + 48 + r 7), (1, 29, 0), (1, 19, 0), (0, 43, 0), (0, 48, r 5)] else if k = 3 then [(1, 20, 0), (1, 47, 115 * 256 + 48 + r 7), (0, 42, 0), (0, 48, r 5)] else if k = 4 then [(1, 22, 0), (1, 47, 103 * 256 + 48 + r 8), (0, 46, 0), (0, 48, r 5), (0, 40, 0), (0, 48, 2), (1, 28, 0), (1, 27, 0), (1, 25, 0), (1, 47, 103 * 256 + 48 + r 8)] else if k = 5 then [(1, 34, 0), (0, 21, 0), (0, 32, 0), (0, 48, r 6), (0, 33, 0), (0, 42, 0), (0, 48, r 5), (1, 29, 0), (1, 18, 0), (0, 41, 0), (0, 48, 2), (0, 40, 0), (0, 48, 2), (0, 44, 0), (0, 18, 0), (0, 35, 0), (0, 28, 0), (1, 24, 0), (1, 47, 116 * 256 + 48 + r 9), (0, 42, 0), (0, 48, r 5)] else if k = 6 then [(1, 23, 0), (1, 47, 103 * 256 + 48 + r 8), (0, 42, 0), (0, 48, 0)] else [(1, 48, r 5), (0, 41, 0), (0, 48, 2), (0, 40, 0), (0, 48, 2), (0, 44, 0), (0, 48, r 5)]
theorem cI_str {k a b : Nat} (hk : k < 10) : cI (strI k a b) = (((((lb 113 ++ dg k) ++ lb 114) ++ dg a) ++ lb 115) ++ dg b) ++ lb 116 := by
  unfold strI
  simp only [ibN1 k hk, bbI0, bbI1, bbI2, ibI, ibK0, ibK1, ibK2, ibK3, ibK4, ibK5, ibK6, ibK7, ibK8, ibK9, ibK10, ibK11, ibK12, ibK13, ibK14, ibK15, ibK16, ibK17, ibK18, ibK19, ibK20, ibK21, ibK22, ibK23, ibK24, ibK25, ibK26, ibK27, ibK28, ibK29, ibK30, ibK31, ibK32, ibK33, ibK34, ibK35, ibK36, ibK37, ibK38, ibK39, ibK40, ibK41, ibK42, ibK43, ibK44, ibK45, ibK46, lbL113, lbL114, lbL115, lbL116, lbL117, lbL118, lbL119, lbL120, lbL121, lbL122, lbL123, lbL124, lbL125, lbL126, lbL127, lbL128, lbL129, lbL130, lbL131, lbL132, lbL133, lbL134, lbL135, lbL136, lbL137, lbL138, lbL139, lbL140, lbL141, lbL142, lbL143, lbL144, lbL145, lbL146, lbL147, lbL148, lbL149, lbL150, lbL151, lbL152, lbL153, lbL154, lbL155, lbL156, lbL157, lbL158, lbL159, dgL0, dgL2, dgL3, dgL4, dgL9, dgL100, cI_c, cI_n, List.append_assoc, List.cons_append, List.nil_append, List.append_nil]
theorem cI_gt {q k a b : Nat} (hk : k < 10) : cI (gtI q k a b) ++ [10] = (bb q).map (fun x : Nat => (x : Int)) ++ ((((((lb 117 ++ dg k) ++ lb 118) ++ dg a) ++ lb 119) ++ dg b) ++ lb 120) := by
  unfold gtI
  simp only [ibN2 k hk, bbI0, bbI1, bbI2, ibI, ibK0, ibK1, ibK2, ibK3, ibK4, ibK5, ibK6, ibK7, ibK8, ibK9, ibK10, ibK11, ibK12, ibK13, ibK14, ibK15, ibK16, ibK17, ibK18, ibK19, ibK20, ibK21, ibK22, ibK23, ibK24, ibK25, ibK26, ibK27, ibK28, ibK29, ibK30, ibK31, ibK32, ibK33, ibK34, ibK35, ibK36, ibK37, ibK38, ibK39, ibK40, ibK41, ibK42, ibK43, ibK44, ibK45, ibK46, lbL113, lbL114, lbL115, lbL116, lbL117, lbL118, lbL119, lbL120, lbL121, lbL122, lbL123, lbL124, lbL125, lbL126, lbL127, lbL128, lbL129, lbL130, lbL131, lbL132, lbL133, lbL134, lbL135, lbL136, lbL137, lbL138, lbL139, lbL140, lbL141, lbL142, lbL143, lbL144, lbL145, lbL146, lbL147, lbL148, lbL149, lbL150, lbL151, lbL152, lbL153, lbL154, lbL155, lbL156, lbL157, lbL158, lbL159, dgL0, dgL2, dgL3, dgL4, dgL9, dgL100, cI_c, cI_n, List.append_assoc, List.cons_append, List.nil_append, List.append_nil]
theorem cI_tr {q k a b c e g : Nat} (hk : k < 10) : cI (trI q k a b c e g) = (bb q).map (fun x : Nat => (x : Int)) ++ ((((((((((((lb 121 ++ dg k) ++ lb 122) ++ dg a) ++ lb 123) ++ dg b) ++ lb 124) ++ dg c) ++ lb 125) ++ dg e) ++ lb 126) ++ dg g) ++ lb 116) := by
  unfold trI
  simp only [ibN3 k hk, bbI0, bbI1, bbI2, ibI, ibK0, ibK1, ibK2, ibK3, ibK4, ibK5, ibK6, ibK7, ibK8, ibK9, ibK10, ibK11, ibK12, ibK13, ibK14, ibK15, ibK16, ibK17, ibK18, ibK19, ibK20, ibK21, ibK22, ibK23, ibK24, ibK25, ibK26, ibK27, ibK28, ibK29, ibK30, ibK31, ibK32, ibK33, ibK34, ibK35, ibK36, ibK37, ibK38, ibK39, ibK40, ibK41, ibK42, ibK43, ibK44, ibK45, ibK46, lbL113, lbL114, lbL115, lbL116, lbL117, lbL118, lbL119, lbL120, lbL121, lbL122, lbL123, lbL124, lbL125, lbL126, lbL127, lbL128, lbL129, lbL130, lbL131, lbL132, lbL133, lbL134, lbL135, lbL136, lbL137, lbL138, lbL139, lbL140, lbL141, lbL142, lbL143, lbL144, lbL145, lbL146, lbL147, lbL148, lbL149, lbL150, lbL151, lbL152, lbL153, lbL154, lbL155, lbL156, lbL157, lbL158, lbL159, dgL0, dgL2, dgL3, dgL4, dgL9, dgL100, cI_c, cI_n, List.append_assoc, List.cons_append, List.nil_append, List.append_nil]
theorem cI_s {r : Nat → Nat} {k : Nat} (h7 : r 7 < 10) (h8 : r 8 < 10) : cI (sI r k) = 32 :: sB r k := by
  unfold sI sB
  (repeat' split) <;> simp only [ibN1 (r 7) h7, ibN2 (r 8) h8, bbI0, bbI1, bbI2, ibI, ibK0, ibK1, ibK2, ibK3, ibK4, ibK5, ibK6, ibK7, ibK8, ibK9, ibK10, ibK11, ibK12, ibK13, ibK14, ibK15, ibK16, ibK17, ibK18, ibK19, ibK20, ibK21, ibK22, ibK23, ibK24, ibK25, ibK26, ibK27, ibK28, ibK29, ibK30, ibK31, ibK32, ibK33, ibK34, ibK35, ibK36, ibK37, ibK38, ibK39, ibK40, ibK41, ibK42, ibK43, ibK44, ibK45, ibK46, lbL113, lbL114, lbL115, lbL116, lbL117, lbL118, lbL119, lbL120, lbL121, lbL122, lbL123, lbL124, lbL125, lbL126, lbL127, lbL128, lbL129, lbL130, lbL131, lbL132, lbL133, lbL134, lbL135, lbL136, lbL137, lbL138, lbL139, lbL140, lbL141, lbL142, lbL143, lbL144, lbL145, lbL146, lbL147, lbL148, lbL149, lbL150, lbL151, lbL152, lbL153, lbL154, lbL155, lbL156, lbL157, lbL158, lbL159, dgL0, dgL2, dgL3, dgL4, dgL9, dgL100, cI_c, cI_n, List.append_assoc, List.cons_append, List.nil_append, List.append_nil]
theorem cI_t {r : Nat → Nat} {k : Nat} (h7 : r 7 < 10) (h8 : r 8 < 10) (h9 : r 9 < 10) : cI (tI r k) = 32 :: tB r k := by
  unfold tI tB
  (repeat' split) <;> simp only [ibN1 (r 7) h7, ibN2 (r 8) h8, ibN3 (r 9) h9, bbI0, bbI1, bbI2, ibI, ibK0, ibK1, ibK2, ibK3, ibK4, ibK5, ibK6, ibK7, ibK8, ibK9, ibK10, ibK11, ibK12, ibK13, ibK14, ibK15, ibK16, ibK17, ibK18, ibK19, ibK20, ibK21, ibK22, ibK23, ibK24, ibK25, ibK26, ibK27, ibK28, ibK29, ibK30, ibK31, ibK32, ibK33, ibK34, ibK35, ibK36, ibK37, ibK38, ibK39, ibK40, ibK41, ibK42, ibK43, ibK44, ibK45, ibK46, lbL113, lbL114, lbL115, lbL116, lbL117, lbL118, lbL119, lbL120, lbL121, lbL122, lbL123, lbL124, lbL125, lbL126, lbL127, lbL128, lbL129, lbL130, lbL131, lbL132, lbL133, lbL134, lbL135, lbL136, lbL137, lbL138, lbL139, lbL140, lbL141, lbL142, lbL143, lbL144, lbL145, lbL146, lbL147, lbL148, lbL149, lbL150, lbL151, lbL152, lbL153, lbL154, lbL155, lbL156, lbL157, lbL158, lbL159, dgL0, dgL2, dgL3, dgL4, dgL9, dgL100, cI_c, cI_n, List.append_assoc, List.cons_append, List.nil_append, List.append_nil]
/-- the tokens of an order -/
def orI (so wh wi : Nat) (w4 : Int) (r : Nat → Nat) : Its :=
  if so = 0 then [(0, 12, 0), (1, 47, 116 * 256 + 48 + wh), (1, 4, 0), (1, 47, 103 * 256 + 48 + wi), (1, 17, 0)] ++ (tI r w4.toNat ++ [(0, 36, 0)])
  else if so = 1 then [(0, 13, 0), (1, 47, 103 * 256 + 48 + wh), (1, 14, 0), (1, 48, wi), (1, 17, 0)] ++ (tI r w4.toNat ++ [(0, 36, 0)])
  else [(0, 15, 0), (1, 47, 115 * 256 + 48 + wh), (1, 16, 0)] ++ (sI r wi ++ ((if w4 < 0 then [] else (1, 17, 0) :: tI r w4.toNat) ++ [(0, 36, 0)]))
theorem cI_or {ce : Nat → Int} {k : Nat} {b : List Int} (h1 : owh ce k < 10) (h2 : oso ce k = 0 → owi ce k < 10) (h7 : orw ce k 7 < 10) (h8 : orw ce k 8 < 10) (h9 : orw ce k 9 < 10) : tOr ce k b = b ++ cI (orI (oso ce k) (owh ce k) (owi ce k) (o4 ce k) (orw ce k)) := by
  have et := cI_t (r := orw ce k) (k := (o4 ce k).toNat) h7 h8 h9
  have es := cI_s (r := orw ce k) (k := owi ce k) h7 h8
  unfold tOr orI
  by_cases c0 : oso ce k = 0
  · rw [if_pos c0, if_pos c0, cI_app, cI_app, et]
    simp only [ibN2 _ (h2 c0), ibN3 _ h1, bbI0, bbI1, bbI2, ibI, ibK0, ibK1, ibK2, ibK3, ibK4, ibK5, ibK6, ibK7, ibK8, ibK9, ibK10, ibK11, ibK12, ibK13, ibK14, ibK15, ibK16, ibK17, ibK18, ibK19, ibK20, ibK21, ibK22, ibK23, ibK24, ibK25, ibK26, ibK27, ibK28, ibK29, ibK30, ibK31, ibK32, ibK33, ibK34, ibK35, ibK36, ibK37, ibK38, ibK39, ibK40, ibK41, ibK42, ibK43, ibK44, ibK45, ibK46, lbL113, lbL114, lbL115, lbL116, lbL117, lbL118, lbL119, lbL120, lbL121, lbL122, lbL123, lbL124, lbL125, lbL126, lbL127, lbL128, lbL129, lbL130, lbL131, lbL132, lbL133, lbL134, lbL135, lbL136, lbL137, lbL138, lbL139, lbL140, lbL141, lbL142, lbL143, lbL144, lbL145, lbL146, lbL147, lbL148, lbL149, lbL150, lbL151, lbL152, lbL153, lbL154, lbL155, lbL156, lbL157, lbL158, lbL159, dgL0, dgL2, dgL3, dgL4, dgL9, dgL100, cI_c, cI_n, List.append_assoc, List.cons_append, List.nil_append, List.append_nil]
  · rw [if_neg c0, if_neg c0]
    by_cases c1 : oso ce k = 1
    · rw [if_pos c1, if_pos c1, cI_app, cI_app, et]
      simp only [ibN2 _ h1, bbI0, bbI1, bbI2, ibI, ibK0, ibK1, ibK2, ibK3, ibK4, ibK5, ibK6, ibK7, ibK8, ibK9, ibK10, ibK11, ibK12, ibK13, ibK14, ibK15, ibK16, ibK17, ibK18, ibK19, ibK20, ibK21, ibK22, ibK23, ibK24, ibK25, ibK26, ibK27, ibK28, ibK29, ibK30, ibK31, ibK32, ibK33, ibK34, ibK35, ibK36, ibK37, ibK38, ibK39, ibK40, ibK41, ibK42, ibK43, ibK44, ibK45, ibK46, lbL113, lbL114, lbL115, lbL116, lbL117, lbL118, lbL119, lbL120, lbL121, lbL122, lbL123, lbL124, lbL125, lbL126, lbL127, lbL128, lbL129, lbL130, lbL131, lbL132, lbL133, lbL134, lbL135, lbL136, lbL137, lbL138, lbL139, lbL140, lbL141, lbL142, lbL143, lbL144, lbL145, lbL146, lbL147, lbL148, lbL149, lbL150, lbL151, lbL152, lbL153, lbL154, lbL155, lbL156, lbL157, lbL158, lbL159, dgL0, dgL2, dgL3, dgL4, dgL9, dgL100, cI_c, cI_n, List.append_assoc, List.cons_append, List.nil_append, List.append_nil]
    · rw [if_neg c1, if_neg c1, cI_app, cI_app, cI_app, es]
      by_cases c4 : o4 ce k < 0
      · rw [if_pos c4, if_pos c4]
        simp only [ibN1 _ h1, bbI0, bbI1, bbI2, ibI, ibK0, ibK1, ibK2, ibK3, ibK4, ibK5, ibK6, ibK7, ibK8, ibK9, ibK10, ibK11, ibK12, ibK13, ibK14, ibK15, ibK16, ibK17, ibK18, ibK19, ibK20, ibK21, ibK22, ibK23, ibK24, ibK25, ibK26, ibK27, ibK28, ibK29, ibK30, ibK31, ibK32, ibK33, ibK34, ibK35, ibK36, ibK37, ibK38, ibK39, ibK40, ibK41, ibK42, ibK43, ibK44, ibK45, ibK46, lbL113, lbL114, lbL115, lbL116, lbL117, lbL118, lbL119, lbL120, lbL121, lbL122, lbL123, lbL124, lbL125, lbL126, lbL127, lbL128, lbL129, lbL130, lbL131, lbL132, lbL133, lbL134, lbL135, lbL136, lbL137, lbL138, lbL139, lbL140, lbL141, lbL142, lbL143, lbL144, lbL145, lbL146, lbL147, lbL148, lbL149, lbL150, lbL151, lbL152, lbL153, lbL154, lbL155, lbL156, lbL157, lbL158, lbL159, dgL0, dgL2, dgL3, dgL4, dgL9, dgL100, cI_c, cI_n, List.append_assoc, List.cons_append, List.nil_append, List.append_nil]
      · rw [if_neg c4, if_neg c4]
        simp only [ibN1 _ h1, et, bbI0, bbI1, bbI2, ibI, ibK0, ibK1, ibK2, ibK3, ibK4, ibK5, ibK6, ibK7, ibK8, ibK9, ibK10, ibK11, ibK12, ibK13, ibK14, ibK15, ibK16, ibK17, ibK18, ibK19, ibK20, ibK21, ibK22, ibK23, ibK24, ibK25, ibK26, ibK27, ibK28, ibK29, ibK30, ibK31, ibK32, ibK33, ibK34, ibK35, ibK36, ibK37, ibK38, ibK39, ibK40, ibK41, ibK42, ibK43, ibK44, ibK45, ibK46, lbL113, lbL114, lbL115, lbL116, lbL117, lbL118, lbL119, lbL120, lbL121, lbL122, lbL123, lbL124, lbL125, lbL126, lbL127, lbL128, lbL129, lbL130, lbL131, lbL132, lbL133, lbL134, lbL135, lbL136, lbL137, lbL138, lbL139, lbL140, lbL141, lbL142, lbL143, lbL144, lbL145, lbL146, lbL147, lbL148, lbL149, lbL150, lbL151, lbL152, lbL153, lbL154, lbL155, lbL156, lbL157, lbL158, lbL159, dgL0, dgL2, dgL3, dgL4, dgL9, dgL100, cI_c, cI_n, List.append_assoc, List.cons_append, List.nil_append, List.append_nil]
/-- the tokens of a list -/
def its2 (ce : Nat → Int) : Nat → Its
  | 0 => []
  | k + 1 => its2 ce k ++ strI k (ml ce k) (sf ce k)
def its4 (ce : Nat → Int) (l : Its) : Nat → Its
  | 0 => l
  | k + 1 => its4 ce l k ++ gtI (if k = 0 then 0 else 2) k (ga ce k) (gt ce k)
def its5 (ce : Nat → Int) (l : Its) : Nat → Its
  | 0 => l
  | k + 1 => its5 ce l k ++ trI (if k = 0 then 2 else 0) k (tw ce k) (twl ce k) (tfr ce k) (tto ce k) (tev ce k)
def its6 (ce : Nat → Int) (l : Its) : Nat → Its
  | 0 => l
  | k + 1 => its6 ce l k ++ orI (oso ce k) (owh ce k) (owi ce k) (o4 ce k) (orw ce k)
def itsL (ce : Nat → Int) : Its := its6 ce (its5 ce (its4 ce (its2 ce (C2 ce)) (C4 ce)) (C5 ce)) (C6 ce)
variable {ce : Nat → Int}
theorem cI_2 : ∀ k, k ≤ 10 → tx2 ce k = cI (its2 ce k)
  | 0, _ => rfl
  | k + 1, h => by
    show (((((tx2 ce k ++ lb 113) ++ dg k) ++ lb 114) ++ dg (ml ce k)) ++ lb 115) ++ dg (sf ce k) ++ lb 116 = cI (its2 ce k ++ strI k (ml ce k) (sf ce k))
    rw [cI_app, cI_str (by omega), cI_2 k (by omega)]
    simp only [List.append_assoc]
theorem cI_4 {l : Its} : ∀ k, k ≤ 10 → tx4 ce (cI l) k = cI (its4 ce l k) ++ (if k = 0 then [] else [10])
  | 0, _ => by rw [if_pos rfl, List.append_nil]; rfl
  | k + 1, h => by
    show (((((tx4 ce (cI l) k ++ lb 117) ++ dg k) ++ lb 118) ++ dg (ga ce k)) ++ lb 119) ++ dg (gt ce k) ++ lb 120 = cI (its4 ce l k ++ gtI (if k = 0 then 0 else 2) k (ga ce k) (gt ce k)) ++ _
    rw [cI_app, cI_4 k (by omega), if_neg (show ¬ (k + 1 = 0) by omega), List.append_assoc (cI (its4 ce l k)) (cI (gtI _ _ _ _)), cI_gt (by omega)]
    by_cases hk : k = 0
    · rw [if_pos hk, if_pos hk, bbI0]
      simp only [List.append_assoc, List.nil_append]
    · rw [if_neg hk, if_neg hk, bbI2]
      simp only [List.append_assoc, List.nil_append]
theorem cI_5 {l : Its} : ∀ k, k ≤ 10 → tx5 ce (cI l ++ [10]) k = cI (its5 ce l k) ++ (if k = 0 then [10] else [])
  | 0, _ => by rw [if_pos rfl]; rfl
  | k + 1, h => by
    show (((((((((((tx5 ce (cI l ++ [10]) k ++ lb 121) ++ dg k) ++ lb 122) ++ dg (tw ce k)) ++ lb 123) ++ dg (twl ce k)) ++ lb 124) ++ dg (tfr ce k)) ++ lb 125) ++ dg (tto ce k)) ++ lb 126) ++ dg (tev ce k) ++ lb 116 = cI (its5 ce l k ++ trI (if k = 0 then 2 else 0) k (tw ce k) (twl ce k) (tfr ce k) (tto ce k) (tev ce k)) ++ _
    rw [cI_app, cI_5 k (by omega), if_neg (show ¬ (k + 1 = 0) by omega), cI_tr (by omega)]
    by_cases hk : k = 0
    · rw [if_pos hk, if_pos hk, bbI2]
      simp only [List.append_assoc, List.append_nil]
    · rw [if_neg hk, if_neg hk, bbI0]
      simp only [List.append_assoc, List.append_nil, List.nil_append]
theorem owh_10 (k : Nat) : owh ce k < 10 := by
  have h2 := C2_b (ce := ce)
  have h4 := C4_b (ce := ce)
  have h5 := C5_b (ce := ce)
  have b1 := owh_b (ce := ce) k
  split at b1
  · omega
  · split at b1
    · omega
    · omega
theorem orw_789 (k : Nat) : orw ce k 7 < 10 ∧ orw ce k 8 < 10 ∧ orw ce k 9 < 10 := by
  have h2 := C2_b (ce := ce)
  have h4 := C4_b (ce := ce)
  have h5 := C5_b (ce := ce)
  have c4 := (bN_e (v := sh (X6 ce k) 5) (n := C2 ce) (by omega)).2
  have c5 := (bN_e (v := sh (Y6 ce k) 2) (n := C4 ce) (by omega)).2
  have c6 := (bN_e (v := sh (Y6 ce k) 4) (n := C5 ce) (by omega)).2
  have e7 : orw ce k 7 = bN (sh (X6 ce k) 5) (C2 ce) := rfl
  have e8 : orw ce k 8 = bN (sh (Y6 ce k) 2) (C4 ce) := rfl
  have e9 : orw ce k 9 = bN (sh (Y6 ce k) 4) (C5 ce) := rfl
  omega
theorem cI_6 {l : Its} : ∀ k, tx6 ce (cI l) k = cI (its6 ce l k)
  | 0 => rfl
  | k + 1 => by
    show tOr ce k (tx6 ce (cI l) k) = cI (its6 ce l k ++ orI (oso ce k) (owh ce k) (owi ce k) (o4 ce k) (orw ce k))
    obtain ⟨h7, h8, h9⟩ := orw_789 (ce := ce) k
    rw [cI_app, cI_or (owh_10 k) (fun h => ?_) h7 h8 h9, cI_6 k]
    have h4 := C4_b (ce := ce)
    have := (owi_b (ce := ce) k).2.1 h
    omega
theorem cI_L : txL ce = cI (itsL ce) := by
  have h2 := C2_b (ce := ce)
  have h4 := C4_b (ce := ce)
  have h5 := C5_b (ce := ce)
  unfold txL itsL
  rw [cI_2 _ (by omega), cI_4 _ (by omega), if_neg (by omega), cI_5 _ (by omega), if_neg (by omega), List.append_nil, cI_6]
end LZ
