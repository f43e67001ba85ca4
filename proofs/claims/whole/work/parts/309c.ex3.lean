-- the reference's exact numbers: what reads alone
/-- the format is set -/
def eM (ex : Nat) (h : xb_H) : Prop := (xb_i h ex 5 = 32 ∧ xb_i h ex 6 = 23 ∧ xb_i h ex 7 = 127) ∨ (xb_i h ex 5 = 64 ∧ xb_i h ex 6 = 52 ∧ xb_i h ex 7 = 1023)
theorem sg_f1 : ∀ o, o < 192 → (69 ≤ o ∧ o ≤ 79 → sgA o = 127) := by decide +kernel
theorem sg_f2 : ∀ o, o < 192 → (80 ≤ o ∧ o ≤ 90 → sgA o = 126) := by decide +kernel
theorem sg_f3 : ∀ o, o < 192 → (91 ≤ o ∧ o ≤ 96 → sgA o = 125) := by decide +kernel
theorem sg_f4 : ∀ o, o < 192 → (97 ≤ o ∧ o ≤ 102 → sgA o = 124) := by decide +kernel
theorem sg_f5 : ∀ o, o < 192 → (103 ≤ o ∧ o ≤ 166 → sgA o = sgR o) := by decide +kernel
theorem sg_r1 : ∀ o, o < 192 → (69 ≤ o ∧ o ≤ 120 → sgR o = 127) := by decide +kernel
theorem sg_r2 : ∀ o, o < 192 → (121 ≤ o ∧ o ≤ 138 → sgR o = 126) := by decide +kernel
theorem sg_r3 : ∀ o, o < 192 → (139 ≤ o ∧ o ≤ 152 → sgR o = 125) := by decide +kernel
theorem sg_r4 : ∀ o, o < 192 → (153 ≤ o ∧ o ≤ 166 → sgR o = 124) := by decide +kernel
theorem sg_r5 : ∀ o, o < 192 → (167 ≤ o ∧ o ≤ 171 → sgR o = 127) := by decide +kernel
theorem sg_r6 : ∀ o, o < 192 → (172 ≤ o ∧ o ≤ 177 → sgR o = 126) := by decide +kernel
theorem sg_r7 : ∀ o, o < 192 → (178 ≤ o ∧ o ≤ 182 → sgR o = 125) := by decide +kernel
theorem sg_r8 : ∀ o, o < 192 → (183 ≤ o ∧ o ≤ 187 → sgR o = 124) := by decide +kernel
theorem sg_r9 : ∀ o, o < 192 → (188 ≤ o → sgR o = 127 - ((o : Nat) - 188)) := by decide +kernel
theorem sg_s1 : ∀ o, o < 192 → ((70 ≤ o ∧ o ≤ 79) ∨ (81 ≤ o ∧ o ≤ 102) ∨ (106 ≤ o ∧ o ≤ 120) ∨ (124 ≤ o ∧ o ≤ 138) ∨ (146 ≤ o ∧ o ≤ 152) ∨ (160 ≤ o ∧ o ≤ 166) → sgN o = 2) := by decide +kernel
theorem sg_s2 : ∀ o, o < 192 → (69 ≤ o ∧ ¬ ((70 ≤ o ∧ o ≤ 79) ∨ (81 ≤ o ∧ o ≤ 102) ∨ (106 ≤ o ∧ o ≤ 120) ∨ (124 ≤ o ∧ o ≤ 138) ∨ (146 ≤ o ∧ o ≤ 152) ∨ (160 ≤ o ∧ o ≤ 166)) → sgN o = 1) := by decide +kernel
section EX3
variable {ex rw_ : Nat} {f g : Nat → Nat} {h h' h2 : xb_H} {F F2 : List Nat}
theorem sp_eresult {x : Int32} {o : Nat} {Qr : Int32 → xb_H → Prop} (hx : x.toInt = o) (h1 : 69 ≤ o) (h2 : o < 192) (hQ : ∀ r : Int32, r.toInt = 127 - sgR o → Qr r h) : w_Exact_result x h Qr := by
  have c : ∀ (y : Int32) (m : Int), y.toInt = m → (y < x ↔ m < (o : Int)) := fun y m hy => by rw [z_lt, hx, hy]
  unfold w_Exact_result w_Exact_result_L38 w_Exact_result_L58 w_Exact_result_L86
  rw [c 120 120 rfl, c 166 166 rfl, c 177 177 rfl, c 182 182 rfl, c 187 187 rfl, c 171 171 rfl, c 138 138 rfl, c 152 152 rfl]
  refine ⟨fun a1 => ⟨fun a2 => ⟨fun a3 => ⟨fun a4 => ⟨fun a5 => hQ _ ?_, fun a5 => hQ _ ?_⟩, fun a4 => hQ _ ?_⟩, fun a3 => ⟨fun a4 => hQ _ ?_, fun a4 => hQ _ ?_⟩⟩, fun a2 => ⟨fun a3 => ⟨fun a4 => hQ _ ?_, fun a4 => hQ _ ?_⟩, fun a3 => hQ _ ?_⟩⟩, fun a1 => hQ _ ?_⟩
  · rw [sg_r9 o h2 (by omega), z_sub, hx, show (188 : Int32).toInt = 188 from rfl]
    omega
  · rw [sg_r8 o h2 (by omega)]
    rfl
  · rw [sg_r7 o h2 (by omega)]
    rfl
  · rw [sg_r6 o h2 (by omega)]
    rfl
  · rw [sg_r5 o h2 (by omega)]
    rfl
  · rw [sg_r4 o h2 (by omega)]
    rfl
  · rw [sg_r3 o h2 (by omega)]
    rfl
  · rw [sg_r2 o h2 (by omega)]
    rfl
  · rw [sg_r1 o h2 (by omega)]
    rfl
theorem sp_efirst {x : Int32} {o : Nat} {Qr : Int32 → xb_H → Prop} (hx : x.toInt = o) (h1 : 69 ≤ o) (h2 : o < 192) (hQ : ∀ r : Int32, r.toInt = 127 - sgA o → Qr r h) : w_Exact_first x h Qr := by
  have c : ∀ (y : Int32) (m : Int), y.toInt = m → (y < x ↔ m < (o : Int)) := fun y m hy => by rw [z_lt, hx, hy]
  have q : ∀ (k r : Int32) (m : Nat), k.toInt = m → r.toInt = 127 - sgA m → x = k → Qr r h := fun k r m hk hr e => by
    have e9 : o = m := by rw [e, hk] at hx; omega
    exact hQ r (by rw [e9]; exact hr)
  unfold w_Exact_first w_Exact_first_L37 w_Exact_first_L164 w_Exact_first_L166 w_Exact_first_L168 w_Exact_first_L170
  rw [c 102 102 rfl, c 166 166 rfl, c 79 79 rfl, c 90 90 rfl, c 96 96 rfl]
  refine ⟨fun a1 => ⟨fun a2 => ⟨q _ _ 167 rfl rfl, q _ _ 168 rfl rfl, q _ _ 169 rfl rfl, q _ _ 170 rfl rfl, q _ _ 171 rfl rfl, q _ _ 172 rfl rfl, q _ _ 173 rfl rfl, q _ _ 174 rfl rfl, q _ _ 175 rfl rfl, q _ _ 176 rfl rfl, q _ _ 177 rfl rfl, q _ _ 178 rfl rfl, q _ _ 179 rfl rfl, q _ _ 180 rfl rfl, q _ _ 181 rfl rfl, q _ _ 182 rfl rfl, q _ _ 183 rfl rfl, q _ _ 184 rfl rfl, q _ _ 185 rfl rfl, q _ _ 186 rfl rfl, q _ _ 187 rfl rfl, q _ _ 188 rfl rfl, q _ _ 189 rfl rfl, q _ _ 190 rfl rfl, q _ _ 191 rfl rfl, fun z1 z2 z3 z4 z5 z6 z7 z8 z9 z10 z11 z12 z13 z14 z15 z16 z17 z18 z19 z20 z21 z22 z23 z24 z25 => ?_⟩, fun a2 => sp_eresult hx h1 h2 (fun r hr _ => hQ r ?_)⟩, fun a1 => ⟨fun a2 => ⟨fun a3 => ⟨fun a4 => hQ _ ?_, fun a4 => hQ _ ?_⟩, fun a3 => hQ _ ?_⟩, fun a2 => hQ _ ?_⟩⟩
  · exfalso
    rw [z_eq, hx] at z1 z2 z3 z4 z5 z6 z7 z8 z9 z10 z11 z12 z13 z14 z15 z16 z17 z18 z19 z20 z21 z22 z23 z24 z25
    simp only [Int32.reduceToInt] at z1 z2 z3 z4 z5 z6 z7 z8 z9 z10 z11 z12 z13 z14 z15 z16 z17 z18 z19 z20 z21 z22 z23 z24 z25
    omega
  · rw [hr, sg_f5 o h2 (by omega)]
  · rw [sg_f4 o h2 (by omega)]
    rfl
  · rw [sg_f3 o h2 (by omega)]
    rfl
  · rw [sg_f2 o h2 (by omega)]
    rfl
  · rw [sg_f1 o h2 (by omega)]
    rfl
theorem sp_eisIn {x a b : Int32} {Qr : Int32 → xb_H → Prop} (hQ : ∀ r : Int32, (r = 0 ∧ (x.toInt < a.toInt ∨ b.toInt < x.toInt)) ∨ (r = 1 ∧ a.toInt ≤ x.toInt ∧ x.toInt ≤ b.toInt) → Qr r h) : w_Exact_isIn x a b h Qr := by
  unfold w_Exact_isIn w_Exact_isIn_L14 w_Exact_isIn_L15
  rw [z_lt, z_lt]
  exact ⟨fun e => ⟨.inl rfl, hQ 0 (.inl ⟨rfl, .inl e⟩)⟩, fun e => ⟨fun e2 => ⟨.inl rfl, hQ 0 (.inl ⟨rfl, .inr e2⟩)⟩, fun e2 => ⟨.inr rfl, hQ 1 (.inr ⟨rfl, by omega, by omega⟩)⟩⟩⟩
theorem sp_esecond {x : Int32} {o : Nat} {Qr : Int32 → xb_H → Prop} (hx : x.toInt = o) (h1 : 69 ≤ o) (h2 : o < 192) (hQ : ∀ r : Int32, (sgN o = 2 ∧ r.toInt = 127 - sgA o) ∨ (sgN o = 1 ∧ r.toInt = -1) → Qr r h) : w_Exact_second x h Qr := by
  have L1 : sgN o = 2 → w_Exact_second_L76 Qr x 1 h := by
    intro hn
    unfold w_Exact_second_L76 w_Exact_second_L89
    exact ⟨fun e => absurd e (by decide), fun _ => sp_efirst hx h1 h2 (fun r hr _ => hQ r (.inl ⟨hn, hr⟩))⟩
  have L0 : sgN o = 1 → w_Exact_second_L76 Qr x 0 h := by
    intro hn
    unfold w_Exact_second_L76 w_Exact_second_L89
    exact ⟨fun _ => hQ _ (.inr ⟨hn, rfl⟩), fun e => absurd rfl e⟩
  unfold w_Exact_second w_Exact_second_L71
  refine sp_eisIn (fun r1 b1 _ => ⟨fun e => L1 (sg_s1 o h2 ?_), fun e => sp_eisIn (fun r2 b2 _ => ⟨fun e2 => L1 (sg_s1 o h2 ?_), fun e2 => sp_eisIn (fun r3 b3 _ => ⟨fun e3 => L1 (sg_s1 o h2 ?_), fun e3 => sp_eisIn (fun r4 b4 _ => ⟨fun e4 => L1 (sg_s1 o h2 ?_), fun e4 => sp_eisIn (fun r5 b5 _ => ⟨fun e5 => L1 (sg_s1 o h2 ?_), fun e5 => sp_eisIn (fun r6 b6 _ => ⟨fun e6 => L0 (sg_s2 o h2 ?_), fun e6 => L1 (sg_s1 o h2 ?_)⟩)⟩)⟩)⟩)⟩)⟩)
  · rw [hx] at b1
    simp only [Int32.reduceToInt] at b1
    rcases b1 with b | b
    · exact absurd b.1 e
    · omega
  · rw [hx] at b2
    simp only [Int32.reduceToInt] at b2
    rcases b2 with b | b
    · exact absurd b.1 e2
    · omega
  · rw [hx] at b3
    simp only [Int32.reduceToInt] at b3
    rcases b3 with b | b
    · exact absurd b.1 e3
    · omega
  · rw [hx] at b4
    simp only [Int32.reduceToInt] at b4
    rcases b4 with b | b
    · exact absurd b.1 e4
    · omega
  · rw [hx] at b5
    simp only [Int32.reduceToInt] at b5
    rcases b5 with b | b
    · exact absurd b.1 e5
    · omega
  · have n : ∀ {r : Int32} {A B : Prop}, (r = 0 ∧ A) ∨ (r = 1 ∧ B) → r = 0 → A := fun hh e9 => by
      rcases hh with b | b
      · exact b.2
      · rw [b.1] at e9
        exact absurd e9 (by decide)
    have c1 := n b1 e
    have c2 := n b2 e2
    have c3 := n b3 e3
    have c4 := n b4 e4
    have c5 := n b5 e5
    have c6 := n b6 e6
    rw [hx] at c1 c2 c3 c4 c5 c6
    simp only [Int32.reduceToInt] at c1 c2 c3 c4 c5 c6
    omega
  · rw [hx] at b6
    simp only [Int32.reduceToInt] at b6
    rcases b6 with b | b
    · exact absurd b.1 e6
    · omega
theorem sp_ebelow {x y : Int64} {Qr : Int32 → xb_H → Prop} (hQ : ∀ r : Int32, r = 0 ∨ r = 1 → Qr r h) : w_Exact_below x y h Qr := by
  unfold w_Exact_below w_Exact_below_L19
  exact ⟨fun _ => ⟨.inl rfl, hQ 0 (.inl rfl)⟩, fun _ => ⟨.inr rfl, hQ 1 (.inr rfl)⟩⟩
theorem sp_ewithSign {x : Int64} {w : Int32} {Qr : Int64 → xb_H → Prop} (hQ : ∀ r : Int64, Qr r h) : w_Exact_withSign x w h Qr := by
  unfold w_Exact_withSign w_Exact_withSign_L18 w_Exact_withSign_L29
  exact ⟨fun _ => hQ _, fun _ => ⟨fun _ => hQ _, fun _ => hQ _⟩⟩
theorem sp_eisSo {w v : Int32} {x y : Int64} {Qr : Int32 → xb_H → Prop} (hQ : ∀ r : Int32, Qr r h) : w_Exact_isSo w v x y h Qr := by
  unfold w_Exact_isSo w_Exact_isSo_L80 w_Exact_isSo_L93 w_Exact_isSo_L107 w_Exact_isSo_L128 w_Exact_isSo_L149 w_Exact_isSo_L164 w_Exact_isSo_L178 w_Exact_isSo_L193
  have a : ∀ {p : Prop}, (p → ((0 : Int32) = 0 ∨ (0 : Int32) = 1) ∧ Qr 0 h) := fun _ => ⟨.inl rfl, hQ 0⟩
  have b : ∀ {p : Prop}, (p → ((1 : Int32) = 0 ∨ (1 : Int32) = 1) ∧ Qr 1 h) := fun _ => ⟨.inr rfl, hQ 1⟩
  exact sp_ewithSign (fun _ _ => sp_ewithSign (fun _ _ => ⟨fun _ => ⟨a, b⟩, fun _ => ⟨a, b⟩, fun _ => ⟨a, b⟩, fun _ => sp_ebelow (fun r hr _ => ⟨hr, hQ r⟩), fun _ => ⟨a, b⟩, fun _ => sp_ebelow (fun r hr _ => ⟨hr, hQ r⟩), fun _ => ⟨a, b⟩, fun _ => sp_ebelow (fun r hr _ => ⟨a, b⟩), fun _ => ⟨a, b⟩, fun _ _ _ _ _ _ _ _ _ => sp_ebelow (fun r hr _ => ⟨a, b⟩)⟩))
theorem sp_ecount {x : Int64} {w v : Int32} {n : Nat} {Qr : Int32 → xb_H → Prop} (hw : w.toInt = n) (hn : n ≤ 64) (hQ : ∀ r : Int32, Qr r h) : w_Exact_count x w v h Qr := by
  have key : ∀ (m : Nat) (x5 x6 x7 x8 : Int32) (k : Nat), x8.toInt = k → k + m = n → w_Exact_count_L15 Qr (m + 1) x w v x5 x6 x7 x8 h := by
    intro m
    induction m with
    | zero =>
      intro x5 x6 x7 x8 k h1 h2
      unfold w_Exact_count_L15 w_Exact_count_L120
      refine ⟨fun _ => ⟨fun _ => ⟨fun _ => hQ _, fun _ => hQ _⟩, fun _ => hQ _⟩, fun e => ?_⟩
      rw [z_le, hw, h1] at e
      omega
    | succ m ih =>
      intro x5 x6 x7 x8 k h1 h2
      have K : ∀ a b c : Int32, w_Exact_count_L15 Qr (m + 1) x w v a b c (x8 + 1) h := fun a b c => ih a b c (x8 + 1) (k + 1) (z_inc h1 (by omega)) (by omega)
      unfold w_Exact_count_L15 w_Exact_count_L37 w_Exact_count_L53 w_Exact_count_L71 w_Exact_count_L89 w_Exact_count_L91
      refine ⟨fun e => ?_, fun _ => ⟨fun _ => ?_, fun _ => ?_⟩⟩
      · rw [z_le, hw, h1] at e
        omega
      · exact ⟨fun _ => ⟨fun _ => ⟨fun _ => K _ _ _, fun _ => ⟨fun _ => K _ _ _, fun _ => K _ _ _⟩⟩, fun _ => ⟨fun _ => K _ _ _, fun _ => ⟨fun _ => K _ _ _, fun _ => K _ _ _⟩⟩⟩, fun _ => ⟨fun _ => ⟨fun _ => K _ _ _, fun _ => ⟨fun _ => K _ _ _, fun _ => K _ _ _⟩⟩, fun _ => ⟨fun _ => K _ _ _, fun _ => ⟨fun _ => K _ _ _, fun _ => K _ _ _⟩⟩⟩⟩
      · exact ⟨fun _ => ⟨fun _ => ⟨fun _ => K _ _ _, fun _ => ⟨fun _ => K _ _ _, fun _ => K _ _ _⟩⟩, fun _ => ⟨fun _ => K _ _ _, fun _ => ⟨fun _ => K _ _ _, fun _ => K _ _ _⟩⟩⟩, fun _ => ⟨fun _ => ⟨fun _ => K _ _ _, fun _ => ⟨fun _ => K _ _ _, fun _ => K _ _ _⟩⟩, fun _ => ⟨fun _ => K _ _ _, fun _ => ⟨fun _ => K _ _ _, fun _ => K _ _ _⟩⟩⟩⟩
  unfold w_Exact_count
  exact ⟨n + 1, key n _ _ _ 0 0 rfl (by omega)⟩
theorem sp_edivided {x y : Int64} {r : Int32} {Qr : Int64 → xb_H → Prop} (hQ : ∀ r : Int64, Qr r h) : w_Exact_divided x y r h Qr := by
  have key : ∀ (m : Nat) (x5 x7 : Int64) (x9 : Int32), x9.toInt = (m : Int) - 1 → m ≤ 64 → w_Exact_divided_L10 Qr (m + 1) x y r x5 x7 x9 h := by
    intro m
    induction m with
    | zero =>
      intro x5 x7 x9 h1 h2
      unfold w_Exact_divided_L10 w_Exact_divided_L94
      refine ⟨fun _ => ⟨fun _ => hQ _, fun _ => hQ _⟩, fun e => ?_⟩
      rw [z_lt, h1, show (0 : Int32).toInt = 0 from rfl] at e
      omega
    | succ m ih =>
      intro x5 x7 x9 h1 h2
      have K : ∀ a b : Int64, w_Exact_divided_L76 (w_Exact_divided_L10 Qr (m + 1)) Qr x y r a b x9 h := fun a b => by
        unfold w_Exact_divided_L76
        refine ih a b (x9 + -1) ?_ (by omega)
        rw [z_add, h1, show (-1 : Int32).toInt = -1 from rfl]
        omega
      have K2 : ∀ a b : Int64, w_Exact_divided_L64 (w_Exact_divided_L10 Qr (m + 1)) Qr x y r a b x9 h := fun a b => by
        unfold w_Exact_divided_L64
        exact fun _ _ _ _ => K _ _
      unfold w_Exact_divided_L10 w_Exact_divided_L27
      refine ⟨fun e => ?_, fun _ => ⟨fun _ v1 _ v2 _ => ⟨fun _ => K2 _ _, fun _ => sp_ebelow (fun _ _ _ => ⟨fun _ => K _ _, fun _ => K2 _ _⟩)⟩, fun _ v1 _ v2 _ => ⟨fun _ => K2 _ _, fun _ => sp_ebelow (fun _ _ _ => ⟨fun _ => K _ _, fun _ => K2 _ _⟩)⟩⟩⟩
      rw [z_lt, h1, show (0 : Int32).toInt = 0 from rfl] at e
      omega
  unfold w_Exact_divided
  exact ⟨65, key 64 _ _ 63 rfl (by omega)⟩
theorem sp_eturned {x : Int64} {w n : Int32} {Qr : Int64 → xb_H → Prop} (hn : n.toInt ≤ 64) (hQ : ∀ r : Int64, Qr r h) : w_Exact_turned x w n h Qr := by
  have key : ∀ (m : Nat) (x4 : Int64) (x6 : Int32) (k : Nat), x6.toInt = k → k ≤ 64 → n.toInt ≤ (k + m : Nat) → w_Exact_turned_L6 Qr (m + 1) w n x4 x6 h := by
    intro m
    induction m with
    | zero =>
      intro x4 x6 k h1 h2 h3
      unfold w_Exact_turned_L6
      refine ⟨fun _ => hQ _, fun e => ?_⟩
      rw [z_le, h1] at e
      omega
    | succ m ih =>
      intro x4 x6 k h1 h2 h3
      unfold w_Exact_turned_L6 w_Exact_turned_L43
      refine ⟨fun _ => hQ _, fun e v2 _ => ?_⟩
      rw [z_le, h1] at e
      exact ⟨fun _ v1 _ => ih _ (x6 + 1) (k + 1) (z_inc h1 (by omega)) (by omega) (by omega), fun _ v1 _ => ih _ (x6 + 1) (k + 1) (z_inc h1 (by omega)) (by omega) (by omega)⟩
  unfold w_Exact_turned
  exact ⟨64 + 1, key 64 _ 0 0 rfl (by omega) (by omega)⟩
theorem sp_emoved {v w n : Int32} {x : Int64} {Qr : Int64 → xb_H → Prop} (hn : n.toInt ≤ 64) (hQ : ∀ r : Int64, Qr r h) : w_Exact_moved v w x n h Qr := by
  have key : ∀ (m : Nat) (x5 : Int64) (x7 : Int32) (k : Nat), x7.toInt = k → k ≤ 64 → n.toInt ≤ (k + m : Nat) → w_Exact_moved_L6 Qr (m + 1) v w x n x5 x7 h := by
    intro m
    induction m with
    | zero =>
      intro x5 x7 k h1 h2 h3
      unfold w_Exact_moved_L6
      refine ⟨fun _ => hQ _, fun e => ?_⟩
      rw [z_le, h1] at e
      omega
    | succ m ih =>
      intro x5 x7 k h1 h2 h3
      unfold w_Exact_moved_L6 w_Exact_moved_L32 w_Exact_moved_L63 w_Exact_moved_L65
      refine ⟨fun _ => hQ _, fun e => ?_⟩
      rw [z_le, h1] at e
      have K : ∀ a : Int64, w_Exact_moved_L6 Qr (m + 1) v w x n a (x7 + 1) h := fun a => ih a (x7 + 1) (k + 1) (z_inc h1 (by omega)) (by omega) (by omega)
      exact ⟨fun _ => ⟨fun _ => K _, fun _ => ⟨fun _ => K _, fun _ => K _⟩⟩, fun _ => ⟨fun _ => K _, fun _ => ⟨fun _ => K _, fun _ => K _⟩⟩⟩
  unfold w_Exact_moved
  exact ⟨64 + 1, key 64 _ 0 0 rfl (by omega) (by omega)⟩
end EX3
