-- what a body that was checked promises of every place that can be come to
def tp (x : Int) : List Int := if x = 64 then [] else [x]
def cnc (c : List Int) : Prop := ∀ y ∈ c, 124 ≤ y ∧ y ≤ 127
/-- a thing that is open in a run: where it was opened, the types below it -/
abbrev gF : Type := Nat × List Int
abbrev ctG : Type := Nat → Nat → List Int → List gF → Prop
abbrev ctN : Type := Nat → Int → Prop
def gl : List ckF → List gF
  | [] => []
  | _ :: [] => []
  | f :: f2 :: r => ((fa f).toNat, fb f) :: gl (f2 :: r)
/-- a branch with types c to label i, whose note is w: -1 the body's end, else the place of the opening -/
def ct_br (cb : Nat → Int32) (res : Int) (G : ctG) (B : ctN) (i : Nat) (w : Int) (c : List Int) (gs : List gF) : Prop :=
  (i = gs.length ∧ w = -1 ∧ ∃ c', c = tp res ++ c') ∨ ∃ (o : Nat) (b ex : List Int), gs[i]? = some (o, b) ∧ w = o ∧ B o b.length ∧ (((cb o).toInt = 3 ∧ c = ex ++ b ∧ G 0 (o + 2) b (gs.drop i)) ∨ ((cb o).toInt ≠ 3 ∧ c = tp (cb (o + 1)).toInt ++ (ex ++ b) ∧ G 1 o (tp (cb (o + 1)).toInt ++ b) (gs.drop (i + 1))))
/-- what the instruction at q needs of its types and gives to the places behind it. G 0: the types and what is open at a place; G 1: behind an opening's end; G 2: where an opening's condition fails; G 3: at the end of an opening with another part. ν0: the notes as they were read -/
def ct_LC (n : Nat → Nat) (vs : Nat → Nat → Int64) (cb lo : Nat → Int32) (t lcn : Nat) (ν0 : Nat → Int32) (G : ctG) (B : ctN) (op : Int) (q : Nat) (cur : List Int) (gs : List gF) : Prop :=
  (op = 1 → G 0 (q + 1) cur gs) ∧
  (op = 2 ∨ op = 3 → ((cb (q + 1)).toInt = 64 ∨ 124 ≤ (cb (q + 1)).toInt ∧ (cb (q + 1)).toInt ≤ 127) ∧ gs.length < 200 ∧ G 0 (q + 2) cur ((q, cur) :: gs)) ∧
  (op = 4 → ((cb (q + 1)).toInt = 64 ∨ 124 ≤ (cb (q + 1)).toInt ∧ (cb (q + 1)).toInt ≤ 127) ∧ gs.length < 200 ∧ ∃ c, cur = 127 :: c ∧ G 0 (q + 2) c ((q, c) :: gs) ∧ G 2 q c gs) ∧
  (op = 5 → ∃ (o : Nat) (b : List Int) (gs' : List gF), gs = (o, b) :: gs' ∧ B (o + 1) q ∧ cur = tp (cb (o + 1)).toInt ++ b ∧ G 3 o cur gs) ∧
  (op = 11 → (B q 1 ∧ gs = [] ∧ cur = tp (vs 0 (5 * t + 4)).toInt) ∨ ∃ (o : Nat) (b : List Int) (gs' : List gF), gs = (o, b) :: gs' ∧ B q 0 ∧ cur = tp (cb (o + 1)).toInt ++ b ∧ G 0 (q + 1) cur gs') ∧
  (op = 12 → ∃ (i : Nat) (w : Int), (ν0 (q + 1)).toInt = i ∧ B (q + 1) w ∧ ct_br cb (vs 0 (5 * t + 4)).toInt G B i w cur gs) ∧
  (op = 13 → ∃ (i : Nat) (w : Int) (c : List Int) (x : Nat), (ν0 (q + 1)).toInt = i ∧ B (q + 1) w ∧ cur = 127 :: c ∧ ct_br cb (vs 0 (5 * t + 4)).toInt G B i w c gs ∧ B q x ∧ G 0 x c gs) ∧
  (op = 14 → ∃ (L : Nat) (c : List Int), (ν0 (q + 1)).toInt = L ∧ B (q + 1) L ∧ cur = 127 :: c ∧ ∀ k : Nat, k ≤ L → ∃ (i : Nat) (w : Int), (ν0 (q + 2 + k)).toInt = i ∧ B (q + 2 + k) w ∧ ct_br cb (vs 0 (5 * t + 4)).toInt G B i w c gs) ∧
  (op = 15 → ∃ c, cur = tp (vs 0 (5 * t + 4)).toInt ++ c) ∧
  (op = 16 → ∃ (i u pa P x : Nat) (c : List Int), (ν0 (q + 1)).toInt = i ∧ B (q + 1) i ∧ i < n 2 / 2 ∧ (vs 2 (2 * i + 1)).toInt = u ∧ (vs 0 (5 * u + 1)).toInt = pa ∧ (vs 0 (5 * u + 2)).toInt = P ∧ cur = ptl cb pa P ++ c ∧ B q x ∧ G 0 x (tp (vs 0 (5 * u + 4)).toInt ++ c) gs) ∧
  (op = 17 → ∃ (u pa P x : Nat) (c : List Int), 0 < n 3 / 3 ∧ (ν0 (q + 1)).toInt = u ∧ B (q + 1) u ∧ u < n 0 / 5 ∧ (vs 0 (5 * u + 1)).toInt = pa ∧ (vs 0 (5 * u + 2)).toInt = P ∧ cur = 127 :: (ptl cb pa P ++ c) ∧ B q x ∧ G 0 x (tp (vs 0 (5 * u + 4)).toInt ++ c) gs) ∧
  (op = 26 → ∃ (r : Int) (c : List Int), cur = r :: c ∧ G 0 (q + 1) c gs) ∧
  (op = 27 → ∃ (r : Int) (c : List Int), cur = 127 :: r :: r :: c ∧ G 0 (q + 1) (r :: c) gs) ∧
  (32 ≤ op → op ≤ 34 → ∃ (i pa P x : Nat), (ν0 (q + 1)).toInt = i ∧ B (q + 1) i ∧ (vs 0 (5 * t + 1)).toInt = pa ∧ (vs 0 (5 * t + 2)).toInt = P ∧ i < P + lcn ∧ B q x ∧ (op = 32 → G 0 x (ck_lt cb lo pa P i :: cur) gs) ∧ (op = 33 → ∃ c, cur = ck_lt cb lo pa P i :: c ∧ G 0 x c gs) ∧ (op = 34 → ∃ c, cur = ck_lt cb lo pa P i :: c ∧ G 0 x cur gs)) ∧
  (35 ≤ op → op ≤ 36 → ∃ (i x : Nat), (ν0 (q + 1)).toInt = i ∧ B (q + 1) i ∧ i < n 5 / 4 ∧ B q x ∧ (op = 35 → G 0 x ((vs 5 (4 * i + 1)).toInt :: cur) gs) ∧ (op = 36 → (vs 5 (4 * i + 2)).toInt = 1 ∧ ∃ c, cur = (vs 5 (4 * i + 1)).toInt :: c ∧ G 0 x c gs)) ∧
  (40 ≤ op → op ≤ 64 → 0 < n 4 / 3 ∧ ∃ x : Nat, B q x ∧ q + 2 ≤ x ∧ (op < 63 → q + 3 ≤ x) ∧ (op = 63 → G 0 x (127 :: cur) gs) ∧ (op = 64 → ∃ c, cur = 127 :: c ∧ G 0 x cur gs) ∧ (op < 54 → ∃ c, cur = 127 :: c ∧ G 0 x (MT (op - 40).toNat :: c) gs) ∧ (54 ≤ op → op < 63 → ∃ c, cur = MT (op - 40).toNat :: 127 :: c ∧ G 0 x c gs)) ∧
  (65 ≤ op → op ≤ 68 → ∃ x : Nat, B q x ∧ q + 2 ≤ x ∧ G 0 x ((192 - op) :: cur) gs) ∧
  (69 ≤ op → ∃ (i : Nat) (c : List Int), i < 30 ∧ (∀ j, j < i → SG (4 * j) < op) ∧ op ≤ SG (4 * i) ∧ cur = List.replicate (SG (4 * i + 1)).toNat (SG (4 * i + 2)) ++ c ∧ G 0 (q + 1) (SG (4 * i + 3) :: c) gs)
def ct_ra (cb : Nat → Int32) (G : ctG) (B : ctN) (o : Nat) (c : List Int) (gs : List gF) : Prop := ∃ e x : Nat, B (o + 1) e ∧ (((cb e).toInt = 5 ∧ B e x) ∨ ((cb e).toInt ≠ 5 ∧ x = e)) ∧ G 0 (x + 1) c gs
def ct_rb (cb : Nat → Int32) (G : ctG) (B : ctN) (o : Nat) (c : List Int) (gs : List gF) : Prop := ∃ e : Nat, B (o + 1) e ∧ (((cb e).toInt = 5 ∧ G 0 (e + 1) c ((o, c) :: gs)) ∨ ((cb e).toInt ≠ 5 ∧ G 0 (e + 1) c gs))
def ct_rc (cb : Nat → Int32) (G : ctG) (B : ctN) (o : Nat) (c : List Int) (gs : List gF) : Prop := ∃ e x : Nat, B (o + 1) e ∧ (cb e).toInt = 5 ∧ B e x ∧ G 0 x c gs
def ct_o1 : List ckF → Nat → List Int → List gF → Prop
  | [], _, _, _ => False
  | f :: r, o, c, gs => (fv f = true ∧ fa f = o ∧ c = tp (fe f) ++ fb f ∧ gs = gl r) ∨ ct_o1 r o c gs
def ct_o2 : List ckF → Nat → List Int → List gF → Prop
  | [], _, _, _ => False
  | f :: r, o, c, gs => (fv f = true ∧ fk f = 4 ∧ fa f = o ∧ c = fb f ∧ gs = gl r) ∨ ct_o2 r o c gs
def ct_o3 : List ckF → Nat → List Int → List gF → Prop
  | [], _, _, _ => False
  | f :: r, o, c, gs => (fv f = true ∧ fa f = o ∧ c = tp (fe f) ++ fb f ∧ gs = (o, fb f) :: gl r ∧ fk f = 5) ∨ ct_o3 r o c gs
/-- what is promised of places to come: by something that is open, or kept already -/
def ct_P (cb : Nat → Int32) (G : ctG) (B : ctN) (fs : List ckF) : Prop :=
  (∀ o c gs, G 1 o c gs → ct_o1 fs o c gs ∨ ct_ra cb G B o c gs) ∧ (∀ o c gs, G 2 o c gs → ct_o2 fs o c gs ∨ ct_rb cb G B o c gs) ∧ (∀ o c gs, G 3 o c gs → ct_o3 fs o c gs ∨ ct_rc cb G B o c gs)
/-- alive: opened so, and not dead since -/
def lvf (f : ckF) : Prop := fv f = true ∧ fd f = 0
/-- a thing that is open, over f2, gs being open below it -/
def ct_F (cb ν : Nat → Int32) (p0 : Nat) (G : ctG) (f f2 : ckF) (o : Nat) (x : Option Nat) (gs : List gF) : Prop :=
  (p0 ≤ o ∧ fa f = o ∧ (cb (o + 1)).toInt = fe f ∧ (fe f = 64 ∨ 124 ≤ fe f ∧ fe f ≤ 127) ∧ (ν o).toInt = (fb f).length ∧ (fb f).length + p0 ≤ o ∧ (∀ y ∈ fb f, ck_t y) ∧ ∃ ex, fb f = ex ++ fb f2) ∧
  (fv f = true ↔ lvf f2) ∧ (fv f = true → cnc (fb f) ∧ G 1 o (tp (fe f) ++ fb f) gs ∧ (fk f = 3 → G 0 (o + 2) (fb f) ((o, fb f) :: gs))) ∧
  ((x = none ∧ (fk f = 2 ∨ fk f = 3 ∨ fk f = 4) ∧ (cb o).toInt = fk f ∧ fl_ f = (if fk f = 3 then 64 else fe f)) ∨ (∃ e : Nat, x = some e ∧ p0 ≤ e ∧ fk f = 5 ∧ (cb o).toInt = 4 ∧ (cb e).toInt = 5 ∧ fl_ f = fe f ∧ (ν (o + 1)).toInt = e))
def ct_FM (cb ν : Nat → Int32) (p0 : Nat) (res : Int) (G : ctG) : List ckF → List (Nat × Option Nat) → Prop
  | [], _ => False
  | b :: [], st => st = [] ∧ fk b = 0 ∧ fa b = -1 ∧ fl_ b = res ∧ fe b = res ∧ fb b = [] ∧ fv b = true
  | f :: f2 :: r, st => ∃ (o : Nat) (x : Option Nat) (st' : List (Nat × Option Nat)), st = (o, x) :: st' ∧ ct_F cb ν p0 G f f2 o x (gl (f2 :: r)) ∧ ct_FM cb ν p0 res G (f2 :: r) st'
/-- types now -/
def ct_T (p0 q : Nat) (f : ckF) (cur : List Int) (g : Int) : Prop :=
  (∀ y ∈ cur, ck_t y) ∧ (∃ ex, cur = ex ++ fb f) ∧ (lvf f → cnc cur) ∧ cur.length + p0 ≤ q ∧ 0 ≤ g ∧ g + p0 ≤ q ∧ (cur.length : Int) ≤ g
def ct_B (ν : Nat → Int32) (p0 q : Nat) : ctN := fun j v => p0 ≤ j ∧ j < q ∧ (ν j).toInt = v
/-- an instruction list goes on from a place at which these are open -/
def ct_w (cb ν0 : Nat → Int32) (E a : Nat) (gs : List gF) : Prop := ∃ (m : Nat) (st : List (Nat × Option Nat)), wk cb ν0 E m a st ∧ wk_st a st ∧ st.map Prod.fst = gs.map Prod.fst
/-- every place that can be come to keeps what it must, or is waiting -/
def ct_C (n : Nat → Nat) (vs : Nat → Nat → Int64) (cb lo : Nat → Int32) (t lcn p0 E : Nat) (ν0 : Nat → Int32) (G : ctG) (ν : Nat → Int32) (q : Nat) (g : Int) (Pd : Nat → List Int → List gF → Prop) : Prop :=
  ∀ a c gs, G 0 a c gs → (p0 ≤ a ∧ a < E ∧ (c.length : Int) ≤ g ∧ cnc c ∧ ct_w cb ν0 E a gs) ∧ (Pd a c gs ∨ (a < q ∧ ct_LC n vs cb lo t lcn ν0 G (ct_B ν p0 q) ((cb a).toInt % 256) a c gs))
def ct_I (n : Nat → Nat) (vs : Nat → Nat → Int64) (cb lo : Nat → Int32) (t lcn p0 E : Nat) (ν0 : Nat → Int32) (G : ctG) (ν : Nat → Int32) (q : Nat) (cur : List Int) (f : ckF) (r : List ckF) (st : List (Nat × Option Nat)) (g : Int) : Prop :=
  (p0 ≤ q ∧ wk_st q st ∧ st.length ≤ 200 ∧ ct_FM cb ν p0 (vs 0 (5 * t + 4)).toInt G (f :: r) st) ∧ ct_T p0 q f cur g ∧ (lvf f → G 0 q cur (gl (f :: r))) ∧
  ct_C n vs cb lo t lcn p0 E ν0 G ν q g (fun a c gs => a = q ∧ c = cur ∧ gs = gl (f :: r) ∧ lvf f) ∧ ct_P cb G (ct_B ν p0 q) (f :: r) ∧ (∀ j, q ≤ j → ν j = ν0 j) ∧ (∀ x ∈ st, ν (wk_key x) = ν0 (wk_key x)) ∧ ∃ m, wk cb ν0 E m q st
section CT
variable {n : Nat → Nat} {vs : Nat → Nat → Int64} {cb lo ν ν' ν0 : Nat → Int32} {t lcn p0 E q q' : Nat} {G G' : ctG} {B B' : ctN} {g g' x : Int} {cur c c' c2 : List Int} {gs : List gF} {f f2 f' : ckF} {r fs fs' : List ckF} {st : List (Nat × Option Nat)} {res w op : Int}
theorem tp_64 : tp 64 = [] := rfl
theorem tp_ne (h : x ≠ 64) : tp x = [x] := if_neg h
theorem tp_len : (tp x).length ≤ 1 := by
  unfold tp
  split <;> simp
theorem tp_cnc (h : x = 64 ∨ 124 ≤ x ∧ x ≤ 127) : cnc (tp x) := fun y hy => by
  unfold tp at hy
  split at hy
  · cases hy
  · rename_i h9
    rw [List.mem_singleton] at hy
    subst hy
    omega
theorem cnc.app {a b : List Int} (ha : cnc a) (hb : cnc b) : cnc (a ++ b) := fun y hy => by
  rcases List.mem_append.mp hy with h | h
  · exact ha y h
  · exact hb y h
theorem cnc.suf {a b : List Int} (h : cnc (a ++ b)) : cnc b := fun y hy => h y (List.mem_append_right _ hy)
theorem cnc.tl {b : List Int} {y : Int} (h : cnc (y :: b)) : cnc b := fun z hz => h z (List.mem_cons_of_mem _ hz)
theorem ct_br.mono {i : Nat} (hG : ∀ k a c s, G k a c s → G' k a c s) (hB : ∀ j v, B j v → B' j v) (h : ct_br cb res G B i w c gs) : ct_br cb res G' B' i w c gs := by
  rcases h with h | ⟨o, b, ex, h0, h1, h2, h3⟩
  · exact .inl h
  · refine .inr ⟨o, b, ex, h0, h1, hB _ _ h2, ?_⟩
    rcases h3 with ⟨a1, a2, a3⟩ | ⟨a1, a2, a3⟩
    · exact .inl ⟨a1, a2, hG _ _ _ _ a3⟩
    · exact .inr ⟨a1, a2, hG _ _ _ _ a3⟩
theorem ct_LC.mono (hG : ∀ k a c s, G k a c s → G' k a c s) (hB : ∀ j v, B j v → B' j v) (h : ct_LC n vs cb lo t lcn ν0 G B op q cur gs) : ct_LC n vs cb lo t lcn ν0 G' B' op q cur gs := by
  obtain ⟨h0, h1, h2, h3, h4, h5, h6, h7, h8, h9, h10, h11, h12, h13, h14, h15, h16, h17⟩ := h
  refine ⟨fun e => hG _ _ _ _ (h0 e), fun e => ⟨(h1 e).1, (h1 e).2.1, hG _ _ _ _ (h1 e).2.2⟩, fun e => ?_, fun e => ?_, fun e => ?_, fun e => ?_, fun e => ?_, fun e => ?_, h8, fun e => ?_, fun e => ?_, fun e => ?_, fun e => ?_, fun e e' => ?_, fun e e' => ?_, fun e e' => ?_, fun e e' => ?_, fun e => ?_⟩
  · obtain ⟨b1, b2, c, a1, a2, a3⟩ := h2 e
    exact ⟨b1, b2, c, a1, hG _ _ _ _ a2, hG _ _ _ _ a3⟩
  · obtain ⟨o, b, gs', a0, a1, a2, a3⟩ := h3 e
    exact ⟨o, b, gs', a0, hB _ _ a1, a2, hG _ _ _ _ a3⟩
  · rcases h4 e with ⟨a1, a2⟩ | ⟨o, b, gs', a0, a1, a2, a3⟩
    · exact .inl ⟨hB _ _ a1, a2⟩
    · exact .inr ⟨o, b, gs', a0, hB _ _ a1, a2, hG _ _ _ _ a3⟩
  · obtain ⟨i, w, a0, a1, a2⟩ := h5 e
    exact ⟨i, w, a0, hB _ _ a1, a2.mono hG hB⟩
  · obtain ⟨i, w, c, x, a0, a1, a2, a3, a4, a5⟩ := h6 e
    exact ⟨i, w, c, x, a0, hB _ _ a1, a2, a3.mono hG hB, hB _ _ a4, hG _ _ _ _ a5⟩
  · obtain ⟨L, c, a0, a1, a2, a3⟩ := h7 e
    refine ⟨L, c, a0, hB _ _ a1, a2, fun k hk => ?_⟩
    obtain ⟨i, w, b0, b1, b2⟩ := a3 k hk
    exact ⟨i, w, b0, hB _ _ b1, b2.mono hG hB⟩
  · obtain ⟨i, u, pa, P, x, c, a0, a1, a2, a3, a4, a5, a6, a7, a8⟩ := h9 e
    exact ⟨i, u, pa, P, x, c, a0, hB _ _ a1, a2, a3, a4, a5, a6, hB _ _ a7, hG _ _ _ _ a8⟩
  · obtain ⟨u, pa, P, x, c, a1, a0, a2, a3, a4, a5, a6, a7, a8⟩ := h10 e
    exact ⟨u, pa, P, x, c, a1, a0, hB _ _ a2, a3, a4, a5, a6, hB _ _ a7, hG _ _ _ _ a8⟩
  · obtain ⟨r, c, a1, a2⟩ := h11 e
    exact ⟨r, c, a1, hG _ _ _ _ a2⟩
  · obtain ⟨r, c, a1, a2⟩ := h12 e
    exact ⟨r, c, a1, hG _ _ _ _ a2⟩
  · obtain ⟨i, pa, P, x, a0, a1, a2, a3, a4, a5, a6, a7, a8⟩ := h13 e e'
    refine ⟨i, pa, P, x, a0, hB _ _ a1, a2, a3, a4, hB _ _ a5, fun e9 => hG _ _ _ _ (a6 e9), fun e9 => ?_, fun e9 => ?_⟩
    · obtain ⟨c, b1, b2⟩ := a7 e9
      exact ⟨c, b1, hG _ _ _ _ b2⟩
    · obtain ⟨c, b1, b2⟩ := a8 e9
      exact ⟨c, b1, hG _ _ _ _ b2⟩
  · obtain ⟨i, x, a0, a1, a2, a3, a4, a5⟩ := h14 e e'
    refine ⟨i, x, a0, hB _ _ a1, a2, hB _ _ a3, fun e9 => hG _ _ _ _ (a4 e9), fun e9 => ?_⟩
    obtain ⟨b0, c, b1, b2⟩ := a5 e9
    exact ⟨b0, c, b1, hG _ _ _ _ b2⟩
  · obtain ⟨a0, x, a1, a2, a3, a4, a5, a6, a7⟩ := h15 e e'
    refine ⟨a0, x, hB _ _ a1, a2, a3, fun e9 => hG _ _ _ _ (a4 e9), fun e9 => ?_, fun e9 => ?_, fun e9 e8 => ?_⟩
    · obtain ⟨c, b1, b2⟩ := a5 e9
      exact ⟨c, b1, hG _ _ _ _ b2⟩
    · obtain ⟨c, b1, b2⟩ := a6 e9
      exact ⟨c, b1, hG _ _ _ _ b2⟩
    · obtain ⟨c, b1, b2⟩ := a7 e9 e8
      exact ⟨c, b1, hG _ _ _ _ b2⟩
  · obtain ⟨x, a1, a2, a3⟩ := h16 e e'
    exact ⟨x, hB _ _ a1, a2, hG _ _ _ _ a3⟩
  · obtain ⟨i, c, a1, a2, a3, a4, a5⟩ := h17 e
    exact ⟨i, c, a1, a2, a3, a4, hG _ _ _ _ a5⟩
theorem ct_B.mono (hν : ∀ j, p0 ≤ j → j < q → ν' j = ν j) (hq : q ≤ q') (j : Nat) (v : Int) (h : ct_B ν p0 q j v) : ct_B ν' p0 q' j v := ⟨h.1, by have := h.2.1; omega, by rw [hν j h.1 h.2.1]; exact h.2.2⟩
theorem ct_C.go {Pd Pd' : Nat → List Int → List gF → Prop} (h : ct_C n vs cb lo t lcn p0 E ν0 G ν q g Pd) (hG : ∀ k a c s, G k a c s → G' k a c s) (hν : ∀ j, p0 ≤ j → j < q → ν' j = ν j) (hq : q ≤ q') (hg : g ≤ g')
    (hold : ∀ a c s, Pd a c s → a < q' ∧ ct_LC n vs cb lo t lcn ν0 G' (ct_B ν' p0 q') ((cb a).toInt % 256) a c s)
    (hnew : ∀ a c s, G' 0 a c s → G 0 a c s ∨ ((p0 ≤ a ∧ a < E ∧ (c.length : Int) ≤ g' ∧ cnc c ∧ ct_w cb ν0 E a s) ∧ (Pd' a c s ∨ (a < q' ∧ ct_LC n vs cb lo t lcn ν0 G' (ct_B ν' p0 q') ((cb a).toInt % 256) a c s)))) : ct_C n vs cb lo t lcn p0 E ν0 G' ν' q' g' Pd' := fun a c s ha => by
  rcases hnew a c s ha with h1 | h1
  · obtain ⟨⟨b1, b2, b3, b4, b5⟩, b6⟩ := h a c s h1
    refine ⟨⟨b1, b2, by omega, b4, b5⟩, .inr ?_⟩
    rcases b6 with b6 | ⟨b6, b7⟩
    · exact hold a c s b6
    · exact ⟨by omega, b7.mono hG (ct_B.mono hν hq)⟩
  · exact h1
theorem ct_ra.mono {o : Nat} (hG : ∀ k a c s, G k a c s → G' k a c s) (hB : ∀ j v, B j v → B' j v) (h : ct_ra cb G B o c gs) : ct_ra cb G' B' o c gs := by
  obtain ⟨e, x, h1, h2, h3⟩ := h
  refine ⟨e, x, hB _ _ h1, ?_, hG _ _ _ _ h3⟩
  rcases h2 with ⟨a1, a2⟩ | h2
  · exact .inl ⟨a1, hB _ _ a2⟩
  · exact .inr h2
theorem ct_rb.mono {o : Nat} (hG : ∀ k a c s, G k a c s → G' k a c s) (hB : ∀ j v, B j v → B' j v) (h : ct_rb cb G B o c gs) : ct_rb cb G' B' o c gs := by
  obtain ⟨e, h1, h3⟩ := h
  refine ⟨e, hB _ _ h1, ?_⟩
  rcases h3 with ⟨a1, a2⟩ | ⟨a1, a2⟩
  · exact .inl ⟨a1, hG _ _ _ _ a2⟩
  · exact .inr ⟨a1, hG _ _ _ _ a2⟩
theorem ct_rc.mono {o : Nat} (hG : ∀ k a c s, G k a c s → G' k a c s) (hB : ∀ j v, B j v → B' j v) (h : ct_rc cb G B o c gs) : ct_rc cb G' B' o c gs := by
  obtain ⟨e, x, h1, h9, h2, h3⟩ := h
  exact ⟨e, x, hB _ _ h1, h9, hB _ _ h2, hG _ _ _ _ h3⟩
theorem ct_P.go (h : ct_P cb G B fs) (hG : ∀ k a c s, G k a c s → G' k a c s) (hB : ∀ j v, B j v → B' j v)
    (h1 : ∀ o c s, G' 1 o c s → G 1 o c s ∨ ct_o1 fs' o c s ∨ ct_ra cb G' B' o c s) (h2 : ∀ o c s, G' 2 o c s → G 2 o c s ∨ ct_o2 fs' o c s ∨ ct_rb cb G' B' o c s) (h3 : ∀ o c s, G' 3 o c s → G 3 o c s ∨ ct_o3 fs' o c s ∨ ct_rc cb G' B' o c s)
    (w1 : ∀ o c s, ct_o1 fs o c s → ct_o1 fs' o c s ∨ ct_ra cb G' B' o c s) (w2 : ∀ o c s, ct_o2 fs o c s → ct_o2 fs' o c s ∨ ct_rb cb G' B' o c s) (w3 : ∀ o c s, ct_o3 fs o c s → ct_o3 fs' o c s ∨ ct_rc cb G' B' o c s) : ct_P cb G' B' fs' := by
  refine ⟨fun o c s e => ?_, fun o c s e => ?_, fun o c s e => ?_⟩
  · rcases h1 o c s e with e1 | e1
    · rcases h.1 o c s e1 with e2 | e2
      · exact w1 o c s e2
      · exact .inr (e2.mono hG hB)
    · exact e1
  · rcases h2 o c s e with e1 | e1
    · rcases h.2.1 o c s e1 with e2 | e2
      · exact w2 o c s e2
      · exact .inr (e2.mono hG hB)
    · exact e1
  · rcases h3 o c s e with e1 | e1
    · rcases h.2.2 o c s e1 with e2 | e2
      · exact w3 o c s e2
      · exact .inr (e2.mono hG hB)
    · exact e1
theorem ct_F.mono {o : Nat} {x : Option Nat} (hG : ∀ k a c s, G k a c s → G' k a c s) (hν : ∀ j, p0 ≤ j → j < q → ν' j = ν j) (hq : o + 1 < q) (h : ct_F cb ν p0 G f f2 o x gs) : ct_F cb ν' p0 G' f f2 o x gs := by
  obtain ⟨⟨a1, a2, a3, a4, a5, a6, a7, a8⟩, b0, b, d⟩ := h
  refine ⟨⟨a1, a2, a3, a4, by rw [hν o a1 (by omega)]; exact a5, a6, a7, a8⟩, b0, fun e => ?_, ?_⟩
  · obtain ⟨b2, b3, b4⟩ := b e
    exact ⟨b2, hG _ _ _ _ b3, fun e9 => hG _ _ _ _ (b4 e9)⟩
  · rcases d with d | ⟨e, d1, d2, d3, d4, d5, d6, d7⟩
    · exact .inl d
    · exact .inr ⟨e, d1, d2, d3, d4, d5, d6, by rw [hν (o + 1) (by omega) hq]; exact d7⟩
theorem ct_FM.mono (hG : ∀ k a c s, G k a c s → G' k a c s) : ∀ {fs : List ckF} {st : List (Nat × Option Nat)} {q : Nat}, (∀ j, p0 ≤ j → j < q → ν' j = ν j) → wk_st q st → ct_FM cb ν p0 res G fs st → ct_FM cb ν' p0 res G' fs st
  | [], _, _, _, _, h => h
  | _ :: [], _, _, _, _, h => h
  | f :: f2 :: r, st, q, hν, hst, h => by
    obtain ⟨o, x, st', e, h1, h2⟩ := h
    subst e
    have ho : o + 1 < q := hst.2.1
    exact ⟨o, x, st', rfl, h1.mono hG hν ho, ct_FM.mono hG (q := o) (fun j h9 h8 => hν j h9 (by omega)) hst.2.2.2 h2⟩
theorem ct_FM.len : ∀ {fs : List ckF} {st : List (Nat × Option Nat)}, ct_FM cb ν p0 res G fs st → fs.length = st.length + 1
  | [], _, h => h.elim
  | _ :: [], _, h => by rw [h.1]; rfl
  | f :: f2 :: r, st, h => by
    obtain ⟨o, x, st', e, h1, h2⟩ := h
    rw [e]
    simp only [List.length_cons]
    have := h2.len
    simp only [List.length_cons] at this
    omega
theorem ct_FM.map : ∀ {fs : List ckF} {st : List (Nat × Option Nat)}, ct_FM cb ν p0 res G fs st → st.map Prod.fst = (gl fs).map Prod.fst
  | [], _, h => h.elim
  | _ :: [], _, h => by rw [h.1]; rfl
  | f :: f2 :: r, st, h => by
    obtain ⟨o, x, st', e, h1, h2⟩ := h
    rw [e]
    show o :: st'.map Prod.fst = (fa f).toNat :: (gl (f2 :: r)).map Prod.fst
    rw [h2.map, h1.1.2.1]
    rfl
theorem gl_len : ∀ (f : ckF) (r : List ckF), (gl (f :: r)).length = r.length
  | _, [] => rfl
  | f, f2 :: r => by
    show (gl (f2 :: r)).length + 1 = r.length + 1
    rw [gl_len f2 r]
theorem gl_hd (h1 : fa f' = fa f) (h2 : fb f' = fb f) : gl (f' :: r) = gl (f :: r) := by
  cases r with
  | nil => rfl
  | cons f2 r => show _ :: _ = _ :: _; rw [h1, h2]
/-- below what is alive all is alive -/
theorem ct_FM.br : ∀ {r : List ckF} {f : ckF} {st : List (Nat × Option Nat)} {q : Nat}, ct_FM cb ν p0 res G (f :: r) st → wk_st q st → lvf f → (∃ ex, c = ex ++ fb f) → ∀ (i : Nat) (f' : ckF), (f :: r)[i]? = some f' →
    lvf f' ∧ (∃ ex, c = ex ++ fb f') ∧ ((i = (gl (f :: r)).length ∧ fa f' = -1 ∧ fl_ f' = res) ∨ ∃ o : Nat, (gl (f :: r))[i]? = some (o, fb f') ∧ fa f' = o ∧ p0 ≤ o ∧ o < q ∧ (ν o).toInt = (fb f').length ∧ (((cb o).toInt = 3 ∧ fl_ f' = 64 ∧ G 0 (o + 2) (fb f') ((gl (f :: r)).drop i)) ∨ ((cb o).toInt ≠ 3 ∧ fl_ f' = (cb (o + 1)).toInt ∧ G 1 o (tp (cb (o + 1)).toInt ++ fb f') ((gl (f :: r)).drop (i + 1)))))
  | [], f, st, q, h, hst, hl, hc, i, f', hi => by
    cases i with
    | succ i => simp at hi
    | zero =>
      simp only [List.getElem?_cons_zero, Option.some.injEq] at hi
      subst hi
      exact ⟨hl, hc, .inl ⟨rfl, h.2.2.1, h.2.2.2.1⟩⟩
  | f2 :: r, f, st, q, h, hst, hl, hc, i, f', hi => by
    obtain ⟨o, x, st', e, h1, h2⟩ := h
    subst e
    have ho : o + 1 < q := hst.2.1
    obtain ⟨⟨a1, a2, a3, a4, a5, a6, a7, a8⟩, b1, b, d⟩ := h1
    obtain ⟨b2, b3, b4⟩ := b hl.1
    have eg : gl (f :: f2 :: r) = (o, fb f) :: gl (f2 :: r) := by
      show ((fa f).toNat, fb f) :: gl (f2 :: r) = _
      rw [a2]
      rfl
    rw [eg]
    cases i with
    | zero =>
      simp only [List.getElem?_cons_zero, Option.some.injEq] at hi
      subst hi
      refine ⟨hl, hc, .inr ⟨o, rfl, a2, a1, by omega, a5, ?_⟩⟩
      rw [a3]
      rcases d with ⟨d1, d2, d3, d4⟩ | ⟨e, d1, d2, d3, d4, d5, d6, d7⟩
      · by_cases hk : fk f = 3
        · exact .inl ⟨by omega, by rw [d4, if_pos hk], b4 hk⟩
        · exact .inr ⟨by omega, by rw [d4, if_neg hk], b3⟩
      · exact .inr ⟨by omega, d6, b3⟩
    | succ i =>
      simp only [List.getElem?_cons_succ] at hi
      have hc2 : ∃ ex, c = ex ++ fb f2 := by
        obtain ⟨ex, e1⟩ := hc
        obtain ⟨ex2, e2⟩ := a8
        exact ⟨ex ++ ex2, by rw [e1, e2, List.append_assoc]⟩
      obtain ⟨c1, c2, c3⟩ := ct_FM.br h2 hst.2.2.2 (b1.mp hl.1) hc2 i f' hi
      refine ⟨c1, c2, ?_⟩
      rcases c3 with ⟨c3, c4⟩ | ⟨o', g0, g1, g2, g3, g4⟩
      · exact .inl ⟨by rw [c3]; rfl, c4⟩
      · exact .inr ⟨o', g0, g1, g2, by omega, g4⟩
theorem suf_tl {a : Int} {ex b c : List Int} (h : a :: c = ex ++ b) (hl : b.length ≤ c.length) : ∃ ex', c = ex' ++ b := by
  cases ex with
  | nil =>
    have := congrArg List.length h
    simp at this
    omega
  | cons y ex =>
    simp only [List.cons_append, List.cons.injEq] at h
    exact ⟨ex, h.2⟩
theorem ct_T.mono (h : ct_T p0 q f cur g) (hq : q ≤ q') : ct_T p0 q' f cur g := by
  obtain ⟨h1, h2, h3, h4, h5, h6, h7⟩ := h
  exact ⟨h1, h2, h3, by omega, h5, by omega, h7⟩
theorem ct_T.tk {r : Int} (h : ct_T p0 q f cur g) (ht : ck_tk f cur x r c) : ct_T p0 q f c g ∧ (lvf f → x ≠ 0 → cur = tp x ++ c) ∧ (lvf f → x = 0 → cur = r :: c) ∧ (x ≠ 64 → lvf f → 124 ≤ r ∧ r ≤ 127) := by
  obtain ⟨h1, ⟨ex, h2⟩, h3, h4, h5, h6, h7⟩ := h
  have hl := ht.len
  rcases ht with ⟨e1, e2, e3⟩ | ⟨e1, e2, e3, e4⟩ | ⟨e1, e2, e3, e4, e5⟩
  · subst e3
    exact ⟨⟨h1, ⟨ex, h2⟩, h3, by omega, h5, h6, by omega⟩, fun _ _ => by rw [e1, tp_64]; rfl, fun _ h9 => by omega, fun h9 => absurd e1 h9⟩
  · subst e2
    refine ⟨⟨fun y hy => h1 y (List.mem_cons_of_mem _ hy), suf_tl h2 e3, fun hf => (h3 hf).tl, by simp only [List.length_cons] at h4; omega, h5, h6, by simp only [List.length_cons] at h7; omega⟩, fun hf h9 => ?_, fun _ _ => rfl, fun _ hf => (h3 hf) r (List.mem_cons_self)⟩
    have := (h3 hf) r (List.mem_cons_self)
    rw [tp_ne e1]
    have e5 : r = x := by omega
    rw [e5]
    rfl
  · subst e5
    exact ⟨⟨h1, ⟨ex, h2⟩, h3, by omega, h5, h6, by omega⟩, fun hf => absurd hf.2 e3, fun hf => absurd hf.2 e3, fun _ hf => absurd hf.2 e3⟩
theorem ct_T.tkl : ∀ {xs cur : List Int}, ct_T p0 q f cur g → (∀ y ∈ xs, 124 ≤ y ∧ y ≤ 127) → ck_tkl f cur xs c → ct_T p0 q f c g ∧ (lvf f → cur = xs ++ c)
  | [], cur, h, _, ht => by
    have e : c = cur := ht
    subst e
    exact ⟨h, fun _ => rfl⟩
  | y :: xs, cur, h, hx, ht => by
    obtain ⟨r, c1, h1, h2⟩ := ht
    have hy := hx y (List.mem_cons_self)
    obtain ⟨a1, a2, -⟩ := h.tk h1
    obtain ⟨b1, b2⟩ := ct_T.tkl a1 (fun z hz => hx z (List.mem_cons_of_mem _ hz)) h2
    refine ⟨b1, fun hf => ?_⟩
    rw [a2 hf (by omega), tp_ne (by omega), b2 hf]
    rfl
theorem ct_T.pt (h : ct_T p0 q f c g) (hp : ck_pt c g x c' g') (hx : x = 64 ∨ (124 ≤ x ∧ x ≤ 127) ∨ (x = 0 ∧ ¬ lvf f)) (hq : q < q') : ct_T p0 q' f c' g' ∧ c' = tp x ++ c ∧ g ≤ g' := by
  obtain ⟨h1, ⟨ex, h2⟩, h3, h4, h5, h6, h7⟩ := h
  rcases hp with ⟨e1, e2, e3⟩ | ⟨e1, e2, e3⟩
  · subst e2 e3
    exact ⟨⟨h1, ⟨ex, h2⟩, h3, by omega, h5, by omega, h7⟩, by rw [e1, tp_64]; rfl, by omega⟩
  · subst e2 e3
    refine ⟨⟨fun y hy => ?_, ⟨x :: ex, by rw [h2]; rfl⟩, fun hf y hy => ?_, by simp only [List.length_cons]; omega, by omega, by omega, by simp only [List.length_cons]; omega⟩, by rw [tp_ne e1]; rfl, by omega⟩
    · rcases List.mem_cons.mp hy with e | e
      · rw [e]
        unfold ck_t
        omega
      · exact h1 y e
    · rcases List.mem_cons.mp hy with e | e
      · rw [e]
        rcases hx with h9 | h9 | ⟨-, h9⟩
        · omega
        · exact h9
        · exact absurd hf h9
      · exact h3 hf y e
/-- a branch to an open thing -/
theorem ct_brOf {f' : ckF} {r2 : Int} {i : Nat} (hT : ct_T p0 q f cur g) (hF : ct_FM cb ν p0 res G (f :: r) st) (hst : wk_st q st) (hl : lvf f) (hi : (f :: r)[i]? = some f') (hlb : fl_ f' ≠ 0) (ht : ck_tk f cur (fl_ f') r2 c2)
    (hG : ∀ k a c s, G k a c s → G' k a c s) (hν : ∀ j, p0 ≤ j → j < q → ν' j = ν j) (hq : q ≤ q') : ct_br cb res G' (ct_B ν' p0 q') i (fa f') cur (gl (f :: r)) := by
  obtain ⟨hT2, e1, -⟩ := hT.tk ht
  have e2 := e1 hl hlb
  obtain ⟨a1, ⟨ex, a2⟩, a3⟩ := hF.br hst hl hT2.2.1 i f' hi
  rcases a3 with ⟨b0, b1, b2⟩ | ⟨o, b0, b1, b2, b3, b4, b5⟩
  · exact .inl ⟨b0, b1, c2, by rw [e2, b2]⟩
  · refine .inr ⟨o, fb f', ex, b0, b1, ⟨b2, by omega, by rw [hν o b2 b3]; exact b4⟩, ?_⟩
    rcases b5 with ⟨d1, d2, d3⟩ | ⟨d1, d2, d3⟩
    · refine .inl ⟨d1, ?_, hG _ _ _ _ d3⟩
      rw [e2, d2, tp_64, a2]
      rfl
    · refine .inr ⟨d1, ?_, hG _ _ _ _ d3⟩
      rw [e2, d2, a2]
end CT
