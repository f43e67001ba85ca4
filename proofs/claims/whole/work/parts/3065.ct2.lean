-- steps of the check, and what they promise
section CT2
variable {n : Nat → Nat} {vs : Nat → Nat → Int64} {cb lo ν ν' ν0 : Nat → Int32} {t lcn p0 E q q' : Nat} {G G' : ctG} {B B' : ctN} {g g' x : Int} {cur cur' c c' c2 : List Int} {gs : List gF} {f f2 f' : ckF} {r r' fs fs' : List ckF} {st st' : List (Nat × Option Nat)} {res w op : Int}

theorem LC_0 (h1 : op = 1) (hb : G 0 (q + 1) cur gs) : ct_LC n vs cb lo t lcn ν0 G B op q cur gs := ⟨fun _ => hb, fun e => by omega, fun e => by omega, fun e => by omega, fun e => by omega, fun e => by omega, fun e => by omega, fun e => by omega, fun e => by omega, fun e => by omega, fun e => by omega, fun e => by omega, fun e => by omega, fun e _ => by omega, fun e _ => by omega, fun e _ => by omega, fun e _ => by omega, fun e => by omega⟩
theorem LC_1 (h1 : op = 2 ∨ op = 3) (hb : ((cb (q + 1)).toInt = 64 ∨ 124 ≤ (cb (q + 1)).toInt ∧ (cb (q + 1)).toInt ≤ 127) ∧ gs.length < 200 ∧ G 0 (q + 2) cur ((q, cur) :: gs)) : ct_LC n vs cb lo t lcn ν0 G B op q cur gs := ⟨fun e => by omega, fun _ => hb, fun e => by omega, fun e => by omega, fun e => by omega, fun e => by omega, fun e => by omega, fun e => by omega, fun e => by omega, fun e => by omega, fun e => by omega, fun e => by omega, fun e => by omega, fun e _ => by omega, fun e _ => by omega, fun e _ => by omega, fun e _ => by omega, fun e => by omega⟩
theorem LC_2 (h1 : op = 4) (hb : ((cb (q + 1)).toInt = 64 ∨ 124 ≤ (cb (q + 1)).toInt ∧ (cb (q + 1)).toInt ≤ 127) ∧ gs.length < 200 ∧ ∃ c, cur = 127 :: c ∧ G 0 (q + 2) c ((q, c) :: gs) ∧ G 2 q c gs) : ct_LC n vs cb lo t lcn ν0 G B op q cur gs := ⟨fun e => by omega, fun e => by omega, fun _ => hb, fun e => by omega, fun e => by omega, fun e => by omega, fun e => by omega, fun e => by omega, fun e => by omega, fun e => by omega, fun e => by omega, fun e => by omega, fun e => by omega, fun e _ => by omega, fun e _ => by omega, fun e _ => by omega, fun e _ => by omega, fun e => by omega⟩
theorem LC_3 (h1 : op = 5) (hb : ∃ (o : Nat) (b : List Int) (gs' : List gF), gs = (o, b) :: gs' ∧ B (o + 1) q ∧ cur = tp (cb (o + 1)).toInt ++ b ∧ G 3 o cur gs) : ct_LC n vs cb lo t lcn ν0 G B op q cur gs := ⟨fun e => by omega, fun e => by omega, fun e => by omega, fun _ => hb, fun e => by omega, fun e => by omega, fun e => by omega, fun e => by omega, fun e => by omega, fun e => by omega, fun e => by omega, fun e => by omega, fun e => by omega, fun e _ => by omega, fun e _ => by omega, fun e _ => by omega, fun e _ => by omega, fun e => by omega⟩
theorem LC_4 (h1 : op = 11) (hb : (B q 1 ∧ gs = [] ∧ cur = tp (vs 0 (5 * t + 4)).toInt) ∨ ∃ (o : Nat) (b : List Int) (gs' : List gF), gs = (o, b) :: gs' ∧ B q 0 ∧ cur = tp (cb (o + 1)).toInt ++ b ∧ G 0 (q + 1) cur gs') : ct_LC n vs cb lo t lcn ν0 G B op q cur gs := ⟨fun e => by omega, fun e => by omega, fun e => by omega, fun e => by omega, fun _ => hb, fun e => by omega, fun e => by omega, fun e => by omega, fun e => by omega, fun e => by omega, fun e => by omega, fun e => by omega, fun e => by omega, fun e _ => by omega, fun e _ => by omega, fun e _ => by omega, fun e _ => by omega, fun e => by omega⟩
theorem LC_5 (h1 : op = 12) (hb : ∃ (i : Nat) (w : Int), (ν0 (q + 1)).toInt = i ∧ B (q + 1) w ∧ ct_br cb (vs 0 (5 * t + 4)).toInt G B i w cur gs) : ct_LC n vs cb lo t lcn ν0 G B op q cur gs := ⟨fun e => by omega, fun e => by omega, fun e => by omega, fun e => by omega, fun e => by omega, fun _ => hb, fun e => by omega, fun e => by omega, fun e => by omega, fun e => by omega, fun e => by omega, fun e => by omega, fun e => by omega, fun e _ => by omega, fun e _ => by omega, fun e _ => by omega, fun e _ => by omega, fun e => by omega⟩
theorem LC_6 (h1 : op = 13) (hb : ∃ (i : Nat) (w : Int) (c : List Int) (x : Nat), (ν0 (q + 1)).toInt = i ∧ B (q + 1) w ∧ cur = 127 :: c ∧ ct_br cb (vs 0 (5 * t + 4)).toInt G B i w c gs ∧ B q x ∧ G 0 x c gs) : ct_LC n vs cb lo t lcn ν0 G B op q cur gs := ⟨fun e => by omega, fun e => by omega, fun e => by omega, fun e => by omega, fun e => by omega, fun e => by omega, fun _ => hb, fun e => by omega, fun e => by omega, fun e => by omega, fun e => by omega, fun e => by omega, fun e => by omega, fun e _ => by omega, fun e _ => by omega, fun e _ => by omega, fun e _ => by omega, fun e => by omega⟩
theorem LC_7 (h1 : op = 14) (hb : ∃ (L : Nat) (c : List Int), (ν0 (q + 1)).toInt = L ∧ B (q + 1) L ∧ cur = 127 :: c ∧ ∀ k : Nat, k ≤ L → ∃ (i : Nat) (w : Int), (ν0 (q + 2 + k)).toInt = i ∧ B (q + 2 + k) w ∧ ct_br cb (vs 0 (5 * t + 4)).toInt G B i w c gs) : ct_LC n vs cb lo t lcn ν0 G B op q cur gs := ⟨fun e => by omega, fun e => by omega, fun e => by omega, fun e => by omega, fun e => by omega, fun e => by omega, fun e => by omega, fun _ => hb, fun e => by omega, fun e => by omega, fun e => by omega, fun e => by omega, fun e => by omega, fun e _ => by omega, fun e _ => by omega, fun e _ => by omega, fun e _ => by omega, fun e => by omega⟩
theorem LC_8 (h1 : op = 15) (hb : ∃ c, cur = tp (vs 0 (5 * t + 4)).toInt ++ c) : ct_LC n vs cb lo t lcn ν0 G B op q cur gs := ⟨fun e => by omega, fun e => by omega, fun e => by omega, fun e => by omega, fun e => by omega, fun e => by omega, fun e => by omega, fun e => by omega, fun _ => hb, fun e => by omega, fun e => by omega, fun e => by omega, fun e => by omega, fun e _ => by omega, fun e _ => by omega, fun e _ => by omega, fun e _ => by omega, fun e => by omega⟩
theorem LC_9 (h1 : op = 16) (hb : ∃ (i u pa P x : Nat) (c : List Int), (ν0 (q + 1)).toInt = i ∧ B (q + 1) i ∧ i < n 2 / 2 ∧ (vs 2 (2 * i + 1)).toInt = u ∧ (vs 0 (5 * u + 1)).toInt = pa ∧ (vs 0 (5 * u + 2)).toInt = P ∧ cur = ptl cb pa P ++ c ∧ B q x ∧ G 0 x (tp (vs 0 (5 * u + 4)).toInt ++ c) gs) : ct_LC n vs cb lo t lcn ν0 G B op q cur gs := ⟨fun e => by omega, fun e => by omega, fun e => by omega, fun e => by omega, fun e => by omega, fun e => by omega, fun e => by omega, fun e => by omega, fun e => by omega, fun _ => hb, fun e => by omega, fun e => by omega, fun e => by omega, fun e _ => by omega, fun e _ => by omega, fun e _ => by omega, fun e _ => by omega, fun e => by omega⟩
theorem LC_10 (h1 : op = 17) (hb : ∃ (u pa P x : Nat) (c : List Int), 0 < n 3 / 3 ∧ (ν0 (q + 1)).toInt = u ∧ B (q + 1) u ∧ u < n 0 / 5 ∧ (vs 0 (5 * u + 1)).toInt = pa ∧ (vs 0 (5 * u + 2)).toInt = P ∧ cur = 127 :: (ptl cb pa P ++ c) ∧ B q x ∧ G 0 x (tp (vs 0 (5 * u + 4)).toInt ++ c) gs) : ct_LC n vs cb lo t lcn ν0 G B op q cur gs := ⟨fun e => by omega, fun e => by omega, fun e => by omega, fun e => by omega, fun e => by omega, fun e => by omega, fun e => by omega, fun e => by omega, fun e => by omega, fun e => by omega, fun _ => hb, fun e => by omega, fun e => by omega, fun e _ => by omega, fun e _ => by omega, fun e _ => by omega, fun e _ => by omega, fun e => by omega⟩
theorem LC_11 (h1 : op = 26) (hb : ∃ (r : Int) (c : List Int), cur = r :: c ∧ G 0 (q + 1) c gs) : ct_LC n vs cb lo t lcn ν0 G B op q cur gs := ⟨fun e => by omega, fun e => by omega, fun e => by omega, fun e => by omega, fun e => by omega, fun e => by omega, fun e => by omega, fun e => by omega, fun e => by omega, fun e => by omega, fun e => by omega, fun _ => hb, fun e => by omega, fun e _ => by omega, fun e _ => by omega, fun e _ => by omega, fun e _ => by omega, fun e => by omega⟩
theorem LC_12 (h1 : op = 27) (hb : ∃ (r : Int) (c : List Int), cur = 127 :: r :: r :: c ∧ G 0 (q + 1) (r :: c) gs) : ct_LC n vs cb lo t lcn ν0 G B op q cur gs := ⟨fun e => by omega, fun e => by omega, fun e => by omega, fun e => by omega, fun e => by omega, fun e => by omega, fun e => by omega, fun e => by omega, fun e => by omega, fun e => by omega, fun e => by omega, fun e => by omega, fun _ => hb, fun e _ => by omega, fun e _ => by omega, fun e _ => by omega, fun e _ => by omega, fun e => by omega⟩
theorem LC_13 (h1 : 32 ≤ op) (h2 : op ≤ 34) (hb : ∃ (i pa P x : Nat), (ν0 (q + 1)).toInt = i ∧ B (q + 1) i ∧ (vs 0 (5 * t + 1)).toInt = pa ∧ (vs 0 (5 * t + 2)).toInt = P ∧ i < P + lcn ∧ B q x ∧ (op = 32 → G 0 x (ck_lt cb lo pa P i :: cur) gs) ∧ (op = 33 → ∃ c, cur = ck_lt cb lo pa P i :: c ∧ G 0 x c gs) ∧ (op = 34 → ∃ c, cur = ck_lt cb lo pa P i :: c ∧ G 0 x cur gs)) : ct_LC n vs cb lo t lcn ν0 G B op q cur gs := ⟨fun e => by omega, fun e => by omega, fun e => by omega, fun e => by omega, fun e => by omega, fun e => by omega, fun e => by omega, fun e => by omega, fun e => by omega, fun e => by omega, fun e => by omega, fun e => by omega, fun e => by omega, fun _ _ => hb, fun e _ => by omega, fun e _ => by omega, fun e _ => by omega, fun e => by omega⟩
theorem LC_14 (h1 : 35 ≤ op) (h2 : op ≤ 36) (hb : ∃ (i x : Nat), (ν0 (q + 1)).toInt = i ∧ B (q + 1) i ∧ i < n 5 / 4 ∧ B q x ∧ (op = 35 → G 0 x ((vs 5 (4 * i + 1)).toInt :: cur) gs) ∧ (op = 36 → (vs 5 (4 * i + 2)).toInt = 1 ∧ ∃ c, cur = (vs 5 (4 * i + 1)).toInt :: c ∧ G 0 x c gs)) : ct_LC n vs cb lo t lcn ν0 G B op q cur gs := ⟨fun e => by omega, fun e => by omega, fun e => by omega, fun e => by omega, fun e => by omega, fun e => by omega, fun e => by omega, fun e => by omega, fun e => by omega, fun e => by omega, fun e => by omega, fun e => by omega, fun e => by omega, fun e _ => by omega, fun _ _ => hb, fun e _ => by omega, fun e _ => by omega, fun e => by omega⟩
theorem LC_15 (h1 : 40 ≤ op) (h2 : op ≤ 64) (hb : 0 < n 4 / 3 ∧ ∃ x : Nat, B q x ∧ q + 2 ≤ x ∧ (op < 63 → q + 3 ≤ x) ∧ (op = 63 → G 0 x (127 :: cur) gs) ∧ (op = 64 → ∃ c, cur = 127 :: c ∧ G 0 x cur gs) ∧ (op < 54 → ∃ c, cur = 127 :: c ∧ G 0 x (MT (op - 40).toNat :: c) gs) ∧ (54 ≤ op → op < 63 → ∃ c, cur = MT (op - 40).toNat :: 127 :: c ∧ G 0 x c gs)) : ct_LC n vs cb lo t lcn ν0 G B op q cur gs := ⟨fun e => by omega, fun e => by omega, fun e => by omega, fun e => by omega, fun e => by omega, fun e => by omega, fun e => by omega, fun e => by omega, fun e => by omega, fun e => by omega, fun e => by omega, fun e => by omega, fun e => by omega, fun e _ => by omega, fun e _ => by omega, fun _ _ => hb, fun e _ => by omega, fun e => by omega⟩
theorem LC_16 (h1 : 65 ≤ op) (h2 : op ≤ 68) (hb : ∃ x : Nat, B q x ∧ q + 2 ≤ x ∧ G 0 x ((192 - op) :: cur) gs) : ct_LC n vs cb lo t lcn ν0 G B op q cur gs := ⟨fun e => by omega, fun e => by omega, fun e => by omega, fun e => by omega, fun e => by omega, fun e => by omega, fun e => by omega, fun e => by omega, fun e => by omega, fun e => by omega, fun e => by omega, fun e => by omega, fun e => by omega, fun e _ => by omega, fun e _ => by omega, fun e _ => by omega, fun _ _ => hb, fun e => by omega⟩
theorem LC_17 (h1 : 69 ≤ op) (hb : ∃ (i : Nat) (c : List Int), i < 30 ∧ (∀ j, j < i → SG (4 * j) < op) ∧ op ≤ SG (4 * i) ∧ cur = List.replicate (SG (4 * i + 1)).toNat (SG (4 * i + 2)) ++ c ∧ G 0 (q + 1) (SG (4 * i + 3) :: c) gs) : ct_LC n vs cb lo t lcn ν0 G B op q cur gs := ⟨fun e => by omega, fun e => by omega, fun e => by omega, fun e => by omega, fun e => by omega, fun e => by omega, fun e => by omega, fun e => by omega, fun e => by omega, fun e => by omega, fun e => by omega, fun e => by omega, fun e => by omega, fun e _ => by omega, fun e _ => by omega, fun e _ => by omega, fun e _ => by omega, fun _ => hb⟩
theorem LC_no (h : op = 0) : ct_LC n vs cb lo t lcn ν0 G B op q cur gs := ⟨fun e => by omega, fun e => by omega, fun e => by omega, fun e => by omega, fun e => by omega, fun e => by omega, fun e => by omega, fun e => by omega, fun e => by omega, fun e => by omega, fun e => by omega, fun e => by omega, fun e => by omega, fun e _ => by omega, fun e _ => by omega, fun e _ => by omega, fun e _ => by omega, fun e => by omega⟩
def lvb (f : ckF) : Bool := fv f && decide (fd f = 0)
theorem lvb_iff : lvb f = true ↔ lvf f := by
  unfold lvb lvf
  simp
theorem wk.lt {m : Nat} (h : wk cb ν E m q st) : q < E := by
  cases m with
  | zero => exact h.elim
  | succ m => exact h.1
theorem ct_next (hI : ct_I n vs cb lo t lcn p0 E ν0 G ν q cur f r st g) (hG : ∀ k a c s, G k a c s → G' k a c s) (hν : ∀ j, j < q → ν' j = ν j) (hν2 : ∀ j, q' ≤ j → ν' j = ν j) (hq : q < q') (hg : g ≤ g')
    (hLC : lvf f → ct_LC n vs cb lo t lcn ν0 G' (ct_B ν' p0 q') ((cb q).toInt % 256) q cur (gl (f :: r)))
    (hnew : ∀ a c s, G' 0 a c s → G 0 a c s ∨ (a = q' ∧ c = cur' ∧ s = gl (f' :: r') ∧ lvf f') ∨ ((p0 ≤ a ∧ a < E ∧ (c.length : Int) ≤ g' ∧ cnc c ∧ ct_w cb ν0 E a s) ∧ a < q' ∧ ct_LC n vs cb lo t lcn ν0 G' (ct_B ν' p0 q') ((cb a).toInt % 256) a c s))
    (h1 : ∀ o c s, G' 1 o c s → G 1 o c s ∨ ct_o1 (f' :: r') o c s ∨ ct_ra cb G' (ct_B ν' p0 q') o c s) (h2 : ∀ o c s, G' 2 o c s → G 2 o c s ∨ ct_o2 (f' :: r') o c s ∨ ct_rb cb G' (ct_B ν' p0 q') o c s) (h3 : ∀ o c s, G' 3 o c s → G 3 o c s ∨ ct_o3 (f' :: r') o c s ∨ ct_rc cb G' (ct_B ν' p0 q') o c s)
    (w1 : ∀ o c s, ct_o1 (f :: r) o c s → ct_o1 (f' :: r') o c s ∨ ct_ra cb G' (ct_B ν' p0 q') o c s) (w2 : ∀ o c s, ct_o2 (f :: r) o c s → ct_o2 (f' :: r') o c s ∨ ct_rb cb G' (ct_B ν' p0 q') o c s) (w3 : ∀ o c s, ct_o3 (f :: r) o c s → ct_o3 (f' :: r') o c s ∨ ct_rc cb G' (ct_B ν' p0 q') o c s)
    (hF : ct_FM cb ν' p0 (vs 0 (5 * t + 4)).toInt G' (f' :: r') st') (hst : wk_st q' st') (hl : st'.length ≤ 200) (hT : ct_T p0 q' f' cur' g') (hL : lvf f' → G' 0 q' cur' (gl (f' :: r')))
    (hk : ∀ x ∈ st', ν' (wk_key x) = ν0 (wk_key x)) (hw : ∃ m, wk cb ν0 E m q' st') : ct_I n vs cb lo t lcn p0 E ν0 G' ν' q' cur' f' r' st' g' := by
  obtain ⟨⟨a1, a2, a3, a4⟩, a5, a6, a7, a8, a9, a10, a11⟩ := hI
  have hνp : ∀ j, p0 ≤ j → j < q → ν' j = ν j := fun j _ h => hν j h
  refine ⟨⟨by omega, hst, hl, hF⟩, hT, hL, a7.go hG hνp (by omega) hg (fun a c s hp => ?_) (fun a c s ha => ?_), a8.go hG (ct_B.mono hνp (by omega)) h1 h2 h3 w1 w2 w3, fun j hj => ?_, hk, hw⟩
  · obtain ⟨e1, e2, e3, e4⟩ := hp
    rw [e1, e2, e3]
    exact ⟨hq, hLC e4⟩
  · rcases hnew a c s ha with h9 | ⟨e1, e2, e3, e4⟩ | h9
    · exact .inl h9
    · obtain ⟨m, hm⟩ := hw
      rw [e1, e2, e3]
      exact .inr ⟨⟨by omega, hm.lt, hT.2.2.2.2.2.2, hT.2.2.1 e4, m, st', hm, hst, hF.map⟩, .inl ⟨rfl, rfl, rfl, e4⟩⟩
    · exact .inr ⟨h9.1, .inr h9.2⟩
  · rw [hν2 j hj]
    exact a9 j (by omega)
theorem ct_keys (hI : ct_I n vs cb lo t lcn p0 E ν0 G ν q cur f r st g) (hν : ∀ j, j < q → ν' j = ν j) : ∀ x ∈ st, ν' (wk_key x) = ν0 (wk_key x) := fun x hx => by
  obtain ⟨⟨a1, a2, a3, a4⟩, a5, a6, a7, a8, a9, a10, a11⟩ := hI
  rw [hν _ (a2.key hx)]
  exact a10 x hx
/-- an instruction that opens and closes nothing and goes on -/
theorem ct_simple (hI : ct_I n vs cb lo t lcn p0 E ν0 G ν q cur f r st g) (hν : ∀ j, j < q → ν' j = ν j) (hν2 : ∀ j, q' ≤ j → ν' j = ν j) (hq : q < q') (hg : g ≤ g') (hT : ct_T p0 q' f cur' g') (hw : ∃ m, wk cb ν0 E m q' st)
    (hLC : ∀ G' : ctG, (∀ k a c s, G k a c s → G' k a c s) → G' 0 q' cur' (gl (f :: r)) → lvf f → ct_LC n vs cb lo t lcn ν0 G' (ct_B ν' p0 q') ((cb q).toInt % 256) q cur (gl (f :: r))) : ∃ G' : ctG, ((∀ k a c s, G k a c s → G' k a c s) ∧ ∀ a c s, G' 0 a c s → G 0 a c s ∨ a = q' ∨ (a = q ∧ (cb q).toInt = 11 ∧ s = gl (f :: r))) ∧ ct_I n vs cb lo t lcn p0 E ν0 G' ν' q' cur' f r st g' := by
  have hk := ct_keys hI hν
  obtain ⟨⟨a1, a2, a3, a4⟩, -⟩ := id hI
  have hG : ∀ k a c s, G k a c s → (fun k a c s => G k a c s ∨ (k = 0 ∧ a = q' ∧ c = cur' ∧ s = gl (f :: r) ∧ lvf f) : ctG) k a c s := fun k a c s h => .inl h
  refine ⟨fun k a c s => G k a c s ∨ (k = 0 ∧ a = q' ∧ c = cur' ∧ s = gl (f :: r) ∧ lvf f), ⟨hG, fun a c s ha => Or.elim ha .inl (fun h => .inr (.inl h.2.1))⟩, ct_next hI hG hν hν2 hq hg (fun hl => hLC _ hG (.inr ⟨rfl, rfl, rfl, rfl, hl⟩) hl) (fun a c s ha => ?_) (fun o c s ha => ?_) (fun o c s ha => ?_) (fun o c s ha => ?_) (fun o c s ha => .inl ha) (fun o c s ha => .inl ha) (fun o c s ha => .inl ha) (a4.mono hG (fun j _ h => hν j h) a2) (a2.mono (by omega)) a3 hT (fun hl => .inr ⟨rfl, rfl, rfl, rfl, hl⟩) hk hw⟩
  · rcases ha with h | ⟨-, h⟩
    · exact .inl h
    · exact .inr (.inl h)
  · rcases ha with h | ⟨h, -⟩
    · exact .inl h
    · cases h
  · rcases ha with h | ⟨h, -⟩
    · exact .inl h
    · cases h
  · rcases ha with h | ⟨h, -⟩
    · exact .inl h
    · cases h
theorem ct_FM.hd (h1 : fk f' = fk f) (h2 : fa f' = fa f) (h3 : fl_ f' = fl_ f) (h4 : fe f' = fe f) (h5 : fb f' = fb f) (h6 : fv f' = fv f) (h : ct_FM cb ν p0 res G (f :: r) st) : ct_FM cb ν p0 res G (f' :: r) st := by
  cases r with
  | nil =>
    unfold ct_FM at h ⊢
    rw [h1, h2, h3, h4, h5, h6]
    exact h
  | cons f2 r =>
    unfold ct_FM ct_F at h ⊢
    rw [h1, h2, h3, h4, h5, h6]
    exact h
/-- an instruction behind which nothing is come to -/
theorem ct_dead (hI : ct_I n vs cb lo t lcn p0 E ν0 G ν q cur f r st g) (hν : ∀ j, j < q → ν' j = ν j) (hν2 : ∀ j, q' ≤ j → ν' j = ν j) (hq : q < q') (hw : ∃ m, wk cb ν0 E m q' st)
    (hLC : lvf f → ct_LC n vs cb lo t lcn ν0 G (ct_B ν' p0 q') ((cb q).toInt % 256) q cur (gl (f :: r))) : ct_I n vs cb lo t lcn p0 E ν0 G ν' q' (fb f) (fdie f) r st g := by
  have hk := ct_keys hI hν
  obtain ⟨⟨a1, a2, a3, a4⟩, ⟨t1, ⟨ex, t2⟩, t3, t4, t5, t6, t7⟩, -⟩ := id hI
  have hG : ∀ k a c s, G k a c s → G k a c s := fun k a c s h => h
  have hd : ¬ lvf (fdie f) := fun h => absurd h.2 (by show ¬ (1 : Int) = 0; omega)
  have hb : (fb f).length ≤ cur.length := by rw [t2, List.length_append]; omega
  refine ct_next hI hG hν hν2 hq (Int.le_refl g) hLC (fun a c s ha => .inl ha) (fun o c s ha => .inl ha) (fun o c s ha => .inl ha) (fun o c s ha => .inl ha) (fun o c s ha => .inl ha) (fun o c s ha => .inl ha) (fun o c s ha => .inl ha) ?_ (a2.mono (by omega)) a3 ⟨fun y hy => t1 y (by rw [t2]; exact List.mem_append_right _ hy), ⟨[], rfl⟩, fun h => absurd h hd, by omega, t5, by omega, by omega⟩ (fun h => absurd h hd) hk hw
  exact ct_FM.hd (f := f) (f' := fdie f) rfl rfl rfl rfl rfl rfl (a4.mono hG (fun j _ h => hν j h) a2)
theorem ct_open {w : Int32} (hI : ct_I n vs cb lo t lcn p0 E ν0 G ν q cur f r st g) (hop : op = 2 ∨ op = 3 ∨ op = 4) (ho : (cb q).toInt % 256 = op) (hoq : (cb q).toInt = op) (hT : ct_T p0 q f cur' g) (hlv : lvf f → (op ≠ 4 → cur = cur') ∧ (op = 4 → cur = 127 :: cur')) (hw : w.toInt = cur'.length) (hl : st.length < 200)
    (hty : (cb (q + 1)).toInt = 64 ∨ 124 ≤ (cb (q + 1)).toInt ∧ (cb (q + 1)).toInt ≤ 127) (hwk : ∃ m, wk cb ν0 E m (q + 2) ((q, none) :: st)) :
    ∃ G' : ctG, ((∀ k a c s, G k a c s → G' k a c s) ∧ ∀ a c s, G' 0 a c s → G 0 a c s ∨ a = q + 2 ∨ (a = q ∧ (cb q).toInt = 11 ∧ s = gl (f :: r))) ∧ ct_I n vs cb lo t lcn p0 E ν0 G' (va_up ν q w) (q + 2) cur' (op, (q : Int), (if op = 3 then 64 else (cb (q + 1)).toInt), (cb (q + 1)).toInt, cur', 0, lvb f) (f :: r) ((q, none) :: st) g := by
  have hν : ∀ j, j < q → va_up ν q w j = ν j := fun j hj => by rw [xh_up, if_neg (by omega)]
  have hk := ct_keys hI hν
  obtain ⟨⟨a1, a2, a3, a4⟩, a5, a6, a7, a8, a9, a10, a11⟩ := id hI
  obtain ⟨t1, ⟨ex, t2⟩, t3, t4, t5, t6, t7⟩ := id hT
  obtain ⟨f', hf'⟩ : ∃ f' : ckF, f' = (op, (q : Int), (if op = 3 then 64 else (cb (q + 1)).toInt), (cb (q + 1)).toInt, cur', 0, lvb f) := ⟨_, rfl⟩
  rw [← hf']
  have k1 : fk f' = op := by rw [hf']; rfl
  have k2 : fa f' = q := by rw [hf']; rfl
  have k3 : fl_ f' = (if op = 3 then 64 else (cb (q + 1)).toInt) := by rw [hf']; rfl
  have k4 : fe f' = (cb (q + 1)).toInt := by rw [hf']; rfl
  have k5 : fb f' = cur' := by rw [hf']; rfl
  have k6 : fd f' = 0 := by rw [hf']; rfl
  have k7 : fv f' = lvb f := by rw [hf']; rfl
  have lf : lvf f' ↔ lvf f := ⟨fun h => lvb_iff.mp (by rw [← k7]; exact h.1), fun h => ⟨by rw [k7]; exact lvb_iff.mpr h, k6⟩⟩
  have eg : gl (f' :: f :: r) = (q, cur') :: gl (f :: r) := by
    show ((fa f').toNat, fb f') :: gl (f :: r) = _
    rw [k2, k5]
    rfl
  have hG : ∀ k a c s, G k a c s → (fun k a c s => G k a c s ∨ (lvf f ∧ ((k = 0 ∧ a = q + 2 ∧ c = cur' ∧ s = (q, cur') :: gl (f :: r)) ∨ (k = 1 ∧ a = q ∧ c = tp (cb (q + 1)).toInt ++ cur' ∧ s = gl (f :: r)) ∨ (k = 2 ∧ op = 4 ∧ a = q ∧ c = cur' ∧ s = gl (f :: r)))) : ctG) k a c s := fun k a c s h => .inl h
  have hgl : (gl (f :: r)).length < 200 := by
    have := a4.len
    rw [gl_len]
    simp only [List.length_cons] at this
    omega
  refine ⟨fun k a c s => G k a c s ∨ (lvf f ∧ ((k = 0 ∧ a = q + 2 ∧ c = cur' ∧ s = (q, cur') :: gl (f :: r)) ∨ (k = 1 ∧ a = q ∧ c = tp (cb (q + 1)).toInt ++ cur' ∧ s = gl (f :: r)) ∨ (k = 2 ∧ op = 4 ∧ a = q ∧ c = cur' ∧ s = gl (f :: r)))), ⟨hG, fun a c s ha => Or.elim ha .inl (fun h => h.2.elim (fun h => .inr (.inl h.2.1)) (fun h => h.elim (fun h => absurd h.1 (by omega)) (fun h => absurd h.1 (by omega))))⟩, ct_next hI hG hν (fun j hj => by rw [xh_up, if_neg (by omega)]) (by omega) (Int.le_refl g) (fun hl9 => ?_) (fun a c s ha => ?_) (fun o c s ha => ?_) (fun o c s ha => ?_) (fun o c s ha => ?_) (fun o c s ha => .inl (.inr ha)) (fun o c s ha => .inl (.inr ha)) (fun o c s ha => .inl (.inr ha)) ⟨q, none, st, rfl, ⟨⟨a1, k2, k4.symm, by rw [k4]; exact hty, by rw [xh_up, if_pos rfl, k5]; exact hw, by rw [k5]; exact t4, by rw [k5]; exact t1, by rw [k5]; exact ⟨ex, t2⟩⟩, by rw [k7]; exact lvb_iff, fun e => ?_, .inl ⟨rfl, by rw [k1]; exact hop, by rw [k1]; exact hoq, by rw [k3, k1, k4]⟩⟩, a4.mono hG (fun j _ h => hν j h) a2⟩ (wk_st.op a2) (by simp only [List.length_cons]; omega) ⟨t1, ⟨[], by rw [k5]; rfl⟩, fun h => t3 (lf.mp h), by omega, t5, by omega, t7⟩ (fun h => ?_) (fun y hy => ?_) hwk⟩
  · rw [ho]
    by_cases h4 : op = 4
    · refine LC_2 h4 ⟨hty, hgl, cur', (hlv hl9).2 h4, .inr ⟨hl9, .inl ⟨rfl, rfl, rfl, rfl⟩⟩, .inr ⟨hl9, .inr (.inr ⟨rfl, h4, rfl, rfl, rfl⟩)⟩⟩
    · refine LC_1 (by omega) ⟨hty, hgl, ?_⟩
      rw [(hlv hl9).1 h4]
      exact .inr ⟨hl9, .inl ⟨rfl, rfl, rfl, rfl⟩⟩
  · rcases ha with h | ⟨h9, ⟨-, e1, e2, e3⟩ | ⟨h, -⟩ | ⟨h, -⟩⟩
    · exact .inl h
    · exact .inr (.inl ⟨e1, e2, by rw [e3, eg], lf.mpr h9⟩)
    · cases h
    · cases h
  · rcases ha with h | ⟨h9, ⟨h, -⟩ | ⟨-, e1, e2, e3⟩ | ⟨h, -⟩⟩
    · exact .inl h
    · cases h
    · refine .inr (.inl (.inl ⟨by rw [k7]; exact lvb_iff.mpr h9, by rw [k2, e1], by rw [e2, k4, k5], e3⟩))
    · cases h
  · rcases ha with h | ⟨h9, ⟨h, -⟩ | ⟨h, -⟩ | ⟨-, e0, e1, e2, e3⟩⟩
    · exact .inl h
    · cases h
    · cases h
    · exact .inr (.inl (.inl ⟨by rw [k7]; exact lvb_iff.mpr h9, by rw [k1, e0], by rw [k2, e1], by rw [e2, k5], e3⟩))
  · rcases ha with h | ⟨h9, ⟨h, -⟩ | ⟨h, -⟩ | ⟨h, -⟩⟩
    · exact .inl h
    · cases h
    · cases h
    · cases h
  · have h9 : lvf f := lvb_iff.mp (by rw [← k7]; exact e)
    rw [k5, k4]
    exact ⟨t3 h9, .inr ⟨h9, .inr (.inl ⟨rfl, rfl, rfl, rfl⟩)⟩, fun _ => .inr ⟨h9, .inl ⟨rfl, rfl, rfl, rfl⟩⟩⟩
  · rw [eg]
    exact .inr ⟨lf.mp h, .inl ⟨rfl, rfl, rfl, rfl⟩⟩
  · rcases List.mem_cons.mp hy with e | e
    · rw [e]
      show va_up ν q w (q + 1) = ν0 (q + 1)
      rw [xh_up, if_neg (by omega)]
      exact a9 (q + 1) (by omega)
    · exact hk y e
end CT2
