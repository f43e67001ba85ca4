-- what a module's rows hold, line by line
def mex (cb ν : Nat → Int32) (b : Nat) (x : Int) (e : Nat) : Prop := ∃ p m : Nat, x = p ∧ p < e ∧ e ≤ b ∧ wk cb ν e m p []
theorem mex.mono {cb ν ν' : Nat → Int32} {b b' e : Nat} {x : Int} (h : mex cb ν b x e) (hb : b ≤ b') (hν : ∀ j, j < b → ν' j = ν j) : mex cb ν' b' x e := by
  obtain ⟨p, m, h1, h2, h3, h4⟩ := h
  exact ⟨p, m, h1, h2, by omega, wk.congr (fun j hj => hν j (by omega)) m p [] trivial h4⟩
def mcnt (v : Nat → Int64) (κ : Int) : Nat → Nat
  | 0 => 0
  | i + 1 => mcnt v κ i + (if (v (7 * i + 1)).toInt = κ then 1 else 0)
theorem mcnt_congr {v v' : Nat → Int64} {κ : Int} : ∀ (i : Nat), (∀ j, j < 7 * i → v' j = v j) → mcnt v' κ i = mcnt v κ i
  | 0, _ => rfl
  | i + 1, h => by
    unfold mcnt
    rw [mcnt_congr i (fun j hj => h j (by omega)), h (7 * i + 1) (by omega)]
def gsum (v : Nat → Int64) (f : Nat) : Nat → Int
  | 0 => 0
  | k + 1 => gsum v f k + (v (2 * (f + k))).toInt
theorem gsum_congr {v v' : Nat → Int64} {f : Nat} : ∀ (k : Nat), (∀ j, j < 2 * (f + k) → v' j = v j) → gsum v' f k = gsum v f k
  | 0, _ => rfl
  | k + 1, h => by
    unfold gsum
    rw [gsum_congr k (fun j hj => h j (by omega)), h (2 * (f + k)) (by omega)]
def mp0 (N : Nat) (cb : Nat → Int32) (_ : Nat) (w : Nat → Int) : Prop := 0 ≤ w 0 ∧ w 0 < N ∧ 0 ≤ w 1 ∧ 0 ≤ w 2 ∧ w 1 + w 2 ≤ N ∧ 0 ≤ w 3 ∧ w 3 ≤ N ∧ (w 3 = 0 → w 4 = 64) ∧ (0 < w 3 → 124 ≤ w 4 ∧ w 4 ≤ 127) ∧ ∀ j : Nat, w 1 ≤ j → (j : Int) < w 1 + w 2 → 124 ≤ (cb j).toInt ∧ (cb j).toInt ≤ 127
def mp1 (N : Nat) (v : Nat → Int64) (i : Nat) (w : Nat → Int) : Prop := 0 ≤ w 0 ∧ w 0 < N ∧ 0 ≤ w 1 ∧ w 1 ≤ 3 ∧ w 2 = mcnt v (w 1) i ∧ 0 ≤ w 3 ∧ 0 ≤ w 4 ∧ w 3 + w 4 ≤ N ∧ 0 ≤ w 5 ∧ 0 ≤ w 6 ∧ w 5 + w 6 ≤ N
def mp2 (N : Nat) (_ : Nat) (w : Nat → Int) : Prop := 0 ≤ w 0 ∧ w 0 < N ∧ 0 ≤ w 1 ∧ w 1 < 4294967296
def mp3 (N : Nat) (_ : Nat) (w : Nat → Int) : Prop := 0 ≤ w 0 ∧ w 0 < N ∧ 0 ≤ w 1 ∧ w 1 < 4294967296 ∧ (w 2 = -1 ∨ 0 ≤ w 2 ∧ w 2 < 4294967296)
def mp5 (N : Nat) (cb ν : Nat → Int32) (b : Nat) (en : Nat → Nat → Nat) (k3 : Int) (i : Nat) (w : Nat → Int) : Prop := 0 ≤ w 0 ∧ w 0 < N ∧ 124 ≤ w 1 ∧ w 1 ≤ 127 ∧ (w 2 = 0 ∨ w 2 = 1) ∧ ((i : Int) < k3 → w 3 = -1) ∧ (k3 ≤ i → mex cb ν b (w 3) (en 5 i))
def mp6 (N : Nat) (_ : Nat) (w : Nat → Int) : Prop := 0 ≤ w 0 ∧ w 0 < N ∧ 0 ≤ w 1 ∧ w 1 ≤ 3 ∧ 0 ≤ w 2 ∧ w 2 < 4294967296 ∧ 0 ≤ w 3 ∧ 0 ≤ w 4 ∧ w 3 + w 4 ≤ N
def mp7 (N : Nat) (cb ν : Nat → Int32) (b : Nat) (en : Nat → Nat → Nat) (n8 : Nat) (i : Nat) (w : Nat → Int) : Prop := 0 ≤ w 0 ∧ w 0 < N ∧ 0 ≤ w 1 ∧ w 1 < 4294967296 ∧ mex cb ν b (w 2) (en 7 i) ∧ 0 ≤ w 3 ∧ 0 ≤ w 4 ∧ 2 * (w 3 + w 4) ≤ n8
def mp9 (cb ν : Nat → Int32) (b : Nat) (en : Nat → Nat → Nat) (n10 : Nat) (v : Nat → Int64) (i : Nat) (w : Nat → Int) : Prop := mex cb ν b (w 0) (en 9 i) ∧ 0 ≤ w 1 ∧ w 1 ≤ 1000 ∧ 0 ≤ w 2 ∧ 0 ≤ w 3 ∧ 2 * (w 2 + w 3) ≤ n10 ∧ gsum v (w 2).toNat (w 3).toNat = w 1
def mp10 (_ : Nat) (w : Nat → Int) : Prop := 0 ≤ w 0 ∧ w 0 ≤ 1000 ∧ 124 ≤ w 1 ∧ w 1 ≤ 127
def mp11 (N : Nat) (cb ν : Nat → Int32) (b : Nat) (en : Nat → Nat → Nat) (i : Nat) (w : Nat → Int) : Prop := 0 ≤ w 0 ∧ w 0 < N ∧ 0 ≤ w 1 ∧ w 1 < 4294967296 ∧ mex cb ν b (w 2) (en 11 i) ∧ 0 ≤ w 3 ∧ 0 ≤ w 4 ∧ w 3 + w 4 ≤ N
theorem mp0_c {N : Nat} {cb : Nat → Int32} (i : Nat) (w w' : Nat → Int) (h : ∀ j, j < 5 → w j = w' j) (hP : mp0 N cb i w) : mp0 N cb i w' := by
  unfold mp0 at *
  simp only [h 0 (by omega), h 1 (by omega), h 2 (by omega), h 3 (by omega), h 4 (by omega)] at hP
  exact hP
theorem mp1_c {N : Nat} {v : Nat → Int64} (i : Nat) (w w' : Nat → Int) (h : ∀ j, j < 7 → w j = w' j) (hP : mp1 N v i w) : mp1 N v i w' := by
  unfold mp1 at *
  simp only [h 0 (by omega), h 1 (by omega), h 2 (by omega), h 3 (by omega), h 4 (by omega), h 5 (by omega), h 6 (by omega)] at hP
  exact hP
theorem mp2_c {N : Nat} (i : Nat) (w w' : Nat → Int) (h : ∀ j, j < 2 → w j = w' j) (hP : mp2 N i w) : mp2 N i w' := by
  unfold mp2 at *
  simp only [h 0 (by omega), h 1 (by omega)] at hP
  exact hP
theorem mp3_c {N : Nat} (i : Nat) (w w' : Nat → Int) (h : ∀ j, j < 3 → w j = w' j) (hP : mp3 N i w) : mp3 N i w' := by
  unfold mp3 at *
  simp only [h 0 (by omega), h 1 (by omega), h 2 (by omega)] at hP
  exact hP
theorem mp5_c {N : Nat} {cb : Nat → Int32} {ν : Nat → Int32} {b : Nat} {en : Nat → Nat → Nat} {k3 : Int} (i : Nat) (w w' : Nat → Int) (h : ∀ j, j < 4 → w j = w' j) (hP : mp5 N cb ν b en k3 i w) : mp5 N cb ν b en k3 i w' := by
  unfold mp5 at *
  simp only [h 0 (by omega), h 1 (by omega), h 2 (by omega), h 3 (by omega)] at hP
  exact hP
theorem mp6_c {N : Nat} (i : Nat) (w w' : Nat → Int) (h : ∀ j, j < 5 → w j = w' j) (hP : mp6 N i w) : mp6 N i w' := by
  unfold mp6 at *
  simp only [h 0 (by omega), h 1 (by omega), h 2 (by omega), h 3 (by omega), h 4 (by omega)] at hP
  exact hP
theorem mp7_c {N : Nat} {cb : Nat → Int32} {ν : Nat → Int32} {b : Nat} {en : Nat → Nat → Nat} {n8 : Nat} (i : Nat) (w w' : Nat → Int) (h : ∀ j, j < 5 → w j = w' j) (hP : mp7 N cb ν b en n8 i w) : mp7 N cb ν b en n8 i w' := by
  unfold mp7 at *
  simp only [h 0 (by omega), h 1 (by omega), h 2 (by omega), h 3 (by omega), h 4 (by omega)] at hP
  exact hP
theorem mp9_c {cb : Nat → Int32} {ν : Nat → Int32} {b : Nat} {en : Nat → Nat → Nat} {n10 : Nat} {v : Nat → Int64} (i : Nat) (w w' : Nat → Int) (h : ∀ j, j < 5 → w j = w' j) (hP : mp9 cb ν b en n10 v i w) : mp9 cb ν b en n10 v i w' := by
  unfold mp9 at *
  simp only [h 0 (by omega), h 1 (by omega), h 2 (by omega), h 3 (by omega), h 4 (by omega)] at hP
  exact hP
theorem mp10_c (i : Nat) (w w' : Nat → Int) (h : ∀ j, j < 2 → w j = w' j) (hP : mp10  i w) : mp10  i w' := by
  unfold mp10 at *
  simp only [h 0 (by omega), h 1 (by omega)] at hP
  exact hP
theorem mp11_c {N : Nat} {cb : Nat → Int32} {ν : Nat → Int32} {b : Nat} {en : Nat → Nat → Nat} (i : Nat) (w w' : Nat → Int) (h : ∀ j, j < 5 → w j = w' j) (hP : mp11 N cb ν b en i w) : mp11 N cb ν b en i w' := by
  unfold mp11 at *
  simp only [h 0 (by omega), h 1 (by omega), h 2 (by omega), h 3 (by omega), h 4 (by omega)] at hP
  exact hP
theorem xr_L.mono2 {c : Nat} {P P' : Nat → (Nat → Int) → Prop} {n : Nat} {v : Nat → Int64} (hc : 0 < c) (hL : xr_L c P n v) (hP : ∀ i w, c * i < n → P i w → P' i w) : xr_L c P' n v := by
  obtain ⟨m, h1, h2⟩ := hL
  refine ⟨m, h1, fun i hi => hP i _ ?_ (h2 i hi)⟩
  rw [h1]
  exact Nat.mul_lt_mul_of_pos_left hi hc
/-- where the instruction lists of a module begin: of own variables, elements, bodies, data -/
def md_off (k : Nat) : Nat := if k = 5 then 3 else if k = 9 then 0 else 2
def md_V (n : Nat → Nat) (vs : Nat → Nat → Int64) (iv : Nat → Int32) (k i : Nat) (p : Int) : Prop :=
  (k = 5 ∨ k = 7 ∨ k = 9 ∨ k = 11) ∧ xr_c k * i + xr_c k ≤ n k ∧ (k = 5 → (iv 3).toInt ≤ i) ∧ (vs k (xr_c k * i + md_off k)).toInt = p
def md_DJ (en : Nat → Nat → Nat) (n : Nat → Nat) (vs : Nat → Nat → Int64) (iv : Nat → Int32) : Prop :=
  ∀ (k i : Nat) (p : Int) (k' i' : Nat) (p' : Int), md_V n vs iv k i p → md_V n vs iv k' i' p' → ¬ (k = k' ∧ i = i') → (en k i : Int) ≤ p' ∨ (en k' i' : Int) ≤ p
def md_J (N : Nat) (cb : Nat → Int32) (en : Nat → Nat → Nat) (n : Nat → Nat) (vs : Nat → Nat → Int64) (ν iv : Nat → Int32) (b a : Nat) : Prop :=
  xr_L 5 (mp0 N cb) (n 0) (vs 0) ∧ xr_L 7 (mp1 N (vs 1)) (n 1) (vs 1) ∧ xr_L 2 (mp2 N) (n 2) (vs 2) ∧ xr_L 3 (mp3 N) (n 3) (vs 3) ∧ xr_L 3 (mp3 N) (n 4) (vs 4) ∧ xr_L 4 (mp5 N cb ν b en (iv 3).toInt) (n 5) (vs 5) ∧ xr_L 5 (mp6 N) (n 6) (vs 6) ∧ xr_L 5 (mp7 N cb ν b en (n 8)) (n 7) (vs 7) ∧ xr_L 2 (mp2 N) (n 8) (vs 8) ∧ xr_L 5 (mp9 cb ν b en (n 10) (vs 10)) (n 9) (vs 9) ∧ xr_L 2 mp10 (n 10) (vs 10) ∧ xr_L 5 (mp11 N cb ν b en) (n 11) (vs 11) ∧
  (∀ κ, κ < 4 → (iv κ).toInt = mcnt (vs 1) κ (n 1 / 7)) ∧ (∀ k, k < 12 → n k ≤ 2 * a) ∧ (∀ j, a ≤ j → ν j = 0) ∧ 8 ≤ a ∧ b ≤ a ∧ md_DJ en n vs iv
/-- all that holds of a module whose reading has come to a, its instruction lists to b -/
def md_K (N : Nat) (cb : Nat → Int32) (n : Nat → Nat) (vs : Nat → Nat → Int64) (ν iv : Nat → Int32) (b a : Nat) : Prop := ∃ en, md_J N cb en n vs ν iv b a
def md_I (N : Nat) (cb : Nat → Int32) (n : Nat → Nat) (vs : Nat → Nat → Int64) (ν iv : Nat → Int32) (a : Nat) : Prop := md_K N cb n vs ν iv a a
section MDI
variable {N : Nat} {cb : Nat → Int32} {n n' : Nat → Nat} {vs vs' : Nat → Nat → Int64} {ν ν' iv : Nat → Int32} {a a' b b' : Nat}
theorem md_J.ex {en : Nat → Nat → Nat} (hI : md_J N cb en n vs ν iv b a) (hb : b ≤ b') (ha : a ≤ a') (hba : b' ≤ a') (hν : ∀ j, j < b → ν' j = ν j) (hz : ∀ j, a' ≤ j → ν' j = 0) : md_J N cb en n vs ν' iv b' a' := by
  obtain ⟨c0, c1, c2, c3, c4, c5, c6, c7, c8, c9, c10, c11, e1, e3, e4, e5, e6, e7⟩ := hI
  refine ⟨c0, c1, c2, c3, c4, c5.mono rfl (fun i w h => ?_), c6, c7.mono rfl (fun i w h => ?_), c8, c9.mono rfl (fun i w h => ?_), c10, c11.mono rfl (fun i w h => ?_), e1, fun k hk => by have := e3 k hk; omega, hz, by omega, hba, e7⟩
  · obtain ⟨a1, a2, a3, a4, a5, a6, a7⟩ := h
    exact ⟨a1, a2, a3, a4, a5, a6, fun h9 => (a7 h9).mono hb hν⟩
  · obtain ⟨a1, a2, a3, a4, a5, a6⟩ := h
    exact ⟨a1, a2, a3, a4, a5.mono hb hν, a6⟩
  · obtain ⟨a1, a2⟩ := h
    exact ⟨a1.mono hb hν, a2⟩
  · obtain ⟨a1, a2, a3, a4, a5, a6⟩ := h
    exact ⟨a1, a2, a3, a4, a5.mono hb hν, a6⟩
theorem md_J.z {en : Nat → Nat → Nat} (hI : md_J N cb en n vs ν iv b a) : ∀ j, a ≤ j → ν j = 0 := hI.2.2.2.2.2.2.2.2.2.2.2.2.2.2.1
theorem md_K.ex (hI : md_K N cb n vs ν iv b a) (ha : a ≤ a') (hν : ∀ j, j < b → ν' j = ν j) (hz : ∀ j, a' ≤ j → ν' j = 0) : md_K N cb n vs ν' iv b a' := by
  obtain ⟨en, h⟩ := hI
  exact ⟨en, h.ex (Nat.le_refl b) ha (by have := h.2.2.2.2.2.2.2.2.2.2.2.2.2.2.2.2.1; omega) hν hz⟩
theorem md_K.at (hI : md_K N cb n vs ν iv b a) (ha : a ≤ a') : md_K N cb n vs ν iv b a' := by
  obtain ⟨en, h⟩ := hI
  exact ⟨en, h.ex (Nat.le_refl b) ha (by have := h.2.2.2.2.2.2.2.2.2.2.2.2.2.2.2.2.1; omega) (fun _ _ => rfl) (fun j hj => h.z j (by omega))⟩
theorem md_K.cl (hI : md_K N cb n vs ν iv b a) : md_I N cb n vs ν iv a := by
  obtain ⟨en, h⟩ := hI
  exact ⟨en, h.ex h.2.2.2.2.2.2.2.2.2.2.2.2.2.2.2.2.1 (Nat.le_refl a) (Nat.le_refl a) (fun _ _ => rfl) h.z⟩
theorem md_I.ex (hI : md_I N cb n vs ν iv a) (ha : a ≤ a') (hν : ∀ j, j < a → ν' j = ν j) (hz : ∀ j, a' ≤ j → ν' j = 0) : md_K N cb n vs ν' iv a a' := md_K.ex hI ha hν hz
theorem md_I.at (hI : md_I N cb n vs ν iv a) (ha : a ≤ a') : md_K N cb n vs ν iv a a' := md_K.at hI ha
/-- rows that begin no instruction list: the lists stay -/
theorem md_DJ.keep {en : Nat → Nat → Nat} {iv' : Nat → Int32} (h : md_DJ en n vs iv) (hv : ∀ k i p, md_V n' vs' iv' k i p → md_V n vs iv k i p) : md_DJ en n' vs' iv' := fun k i p k' i' p' h1 h2 h3 => h k i p k' i' p' (hv k i p h1) (hv k' i' p' h2) h3
theorem md_V.A {k0 : Nat} {L : List Int64} (hA : xr_A k0 n vs n' vs' L) {k i : Nat} {p : Int} (h : md_V n' vs' iv k i p) (hk : k ≠ k0 ∨ xr_c k * i + xr_c k ≤ n k) : md_V n vs iv k i p := by
  obtain ⟨h1, h2, h3, h4⟩ := h
  by_cases e : k = k0
  · subst e
    have hb : xr_c k * i + xr_c k ≤ n k := by
      rcases hk with h9 | h9
      · exact absurd rfl h9
      · exact h9
    refine ⟨h1, hb, h3, ?_⟩
    have ho : md_off k < xr_c k := by rcases h1 with rfl | rfl | rfl | rfl <;> decide
    rw [← hA.2.2.1 _ (by omega)]
    exact h4
  · obtain ⟨a1, a2⟩ := hA.2.1 k e
    rw [a1] at h2
    rw [a2] at h4
    exact ⟨h1, h2, h3, h4⟩

theorem md_K.a0 {L : List Int64} (hI : md_K N cb n vs ν iv b a) (hA : xr_A 0 n vs n' vs' L) (hL : L.length = 5) (hb : n 0 + 5 ≤ 2 * a) (hp : mp0 N cb (n 0 / 5) (fun j => (L.getD j 0).toInt)) : md_K N cb n' vs' ν iv b a := by
  obtain ⟨en, c0, c1, c2, c3, c4, c5, c6, c7, c8, c9, c10, c11, e1, e3, e4, e5, e6, e7⟩ := hI
  refine ⟨en, xr_L.app (by omega) c0 hA hL mp0_c (hp), by rw [(hA.2.1 1 (by omega)).1, (hA.2.1 1 (by omega)).2]; exact c1, by rw [(hA.2.1 2 (by omega)).1, (hA.2.1 2 (by omega)).2]; exact c2, by rw [(hA.2.1 3 (by omega)).1, (hA.2.1 3 (by omega)).2]; exact c3, by rw [(hA.2.1 4 (by omega)).1, (hA.2.1 4 (by omega)).2]; exact c4, by rw [(hA.2.1 5 (by omega)).1, (hA.2.1 5 (by omega)).2]; exact c5, by rw [(hA.2.1 6 (by omega)).1, (hA.2.1 6 (by omega)).2]; exact c6, by rw [(hA.2.1 7 (by omega)).1, (hA.2.1 7 (by omega)).2, (hA.2.1 8 (by omega)).1]; exact c7, by rw [(hA.2.1 8 (by omega)).1, (hA.2.1 8 (by omega)).2]; exact c8, by rw [(hA.2.1 9 (by omega)).1, (hA.2.1 9 (by omega)).2, (hA.2.1 10 (by omega)).1, (hA.2.1 10 (by omega)).2]; exact c9, by rw [(hA.2.1 10 (by omega)).1, (hA.2.1 10 (by omega)).2]; exact c10, by rw [(hA.2.1 11 (by omega)).1, (hA.2.1 11 (by omega)).2]; exact c11, by rw [(hA.2.1 1 (by omega)).1, (hA.2.1 1 (by omega)).2]; exact e1, fun j hj => ?_, e4, e5, e6, e7.keep (fun k i p h => h.A hA (.inl (by rcases h.1 with e | e | e | e <;> omega)))⟩
  · by_cases e : j = 0
    · rw [e, hA.1, hL]
      exact hb
    · rw [(hA.2.1 j e).1]
      exact e3 j hj
theorem md_K.a2 {L : List Int64} (hI : md_K N cb n vs ν iv b a) (hA : xr_A 2 n vs n' vs' L) (hL : L.length = 2) (hb : n 2 + 2 ≤ 2 * a) (hp : mp2 N (n 2 / 2) (fun j => (L.getD j 0).toInt)) : md_K N cb n' vs' ν iv b a := by
  obtain ⟨en, c0, c1, c2, c3, c4, c5, c6, c7, c8, c9, c10, c11, e1, e3, e4, e5, e6, e7⟩ := hI
  refine ⟨en, by rw [(hA.2.1 0 (by omega)).1, (hA.2.1 0 (by omega)).2]; exact c0, by rw [(hA.2.1 1 (by omega)).1, (hA.2.1 1 (by omega)).2]; exact c1, xr_L.app (by omega) c2 hA hL mp2_c (hp), by rw [(hA.2.1 3 (by omega)).1, (hA.2.1 3 (by omega)).2]; exact c3, by rw [(hA.2.1 4 (by omega)).1, (hA.2.1 4 (by omega)).2]; exact c4, by rw [(hA.2.1 5 (by omega)).1, (hA.2.1 5 (by omega)).2]; exact c5, by rw [(hA.2.1 6 (by omega)).1, (hA.2.1 6 (by omega)).2]; exact c6, by rw [(hA.2.1 7 (by omega)).1, (hA.2.1 7 (by omega)).2, (hA.2.1 8 (by omega)).1]; exact c7, by rw [(hA.2.1 8 (by omega)).1, (hA.2.1 8 (by omega)).2]; exact c8, by rw [(hA.2.1 9 (by omega)).1, (hA.2.1 9 (by omega)).2, (hA.2.1 10 (by omega)).1, (hA.2.1 10 (by omega)).2]; exact c9, by rw [(hA.2.1 10 (by omega)).1, (hA.2.1 10 (by omega)).2]; exact c10, by rw [(hA.2.1 11 (by omega)).1, (hA.2.1 11 (by omega)).2]; exact c11, by rw [(hA.2.1 1 (by omega)).1, (hA.2.1 1 (by omega)).2]; exact e1, fun j hj => ?_, e4, e5, e6, e7.keep (fun k i p h => h.A hA (.inl (by rcases h.1 with e | e | e | e <;> omega)))⟩
  · by_cases e : j = 2
    · rw [e, hA.1, hL]
      exact hb
    · rw [(hA.2.1 j e).1]
      exact e3 j hj
theorem md_K.a3 {L : List Int64} (hI : md_K N cb n vs ν iv b a) (hA : xr_A 3 n vs n' vs' L) (hL : L.length = 3) (hb : n 3 + 3 ≤ 2 * a) (hp : mp3 N (n 3 / 3) (fun j => (L.getD j 0).toInt)) : md_K N cb n' vs' ν iv b a := by
  obtain ⟨en, c0, c1, c2, c3, c4, c5, c6, c7, c8, c9, c10, c11, e1, e3, e4, e5, e6, e7⟩ := hI
  refine ⟨en, by rw [(hA.2.1 0 (by omega)).1, (hA.2.1 0 (by omega)).2]; exact c0, by rw [(hA.2.1 1 (by omega)).1, (hA.2.1 1 (by omega)).2]; exact c1, by rw [(hA.2.1 2 (by omega)).1, (hA.2.1 2 (by omega)).2]; exact c2, xr_L.app (by omega) c3 hA hL mp3_c (hp), by rw [(hA.2.1 4 (by omega)).1, (hA.2.1 4 (by omega)).2]; exact c4, by rw [(hA.2.1 5 (by omega)).1, (hA.2.1 5 (by omega)).2]; exact c5, by rw [(hA.2.1 6 (by omega)).1, (hA.2.1 6 (by omega)).2]; exact c6, by rw [(hA.2.1 7 (by omega)).1, (hA.2.1 7 (by omega)).2, (hA.2.1 8 (by omega)).1]; exact c7, by rw [(hA.2.1 8 (by omega)).1, (hA.2.1 8 (by omega)).2]; exact c8, by rw [(hA.2.1 9 (by omega)).1, (hA.2.1 9 (by omega)).2, (hA.2.1 10 (by omega)).1, (hA.2.1 10 (by omega)).2]; exact c9, by rw [(hA.2.1 10 (by omega)).1, (hA.2.1 10 (by omega)).2]; exact c10, by rw [(hA.2.1 11 (by omega)).1, (hA.2.1 11 (by omega)).2]; exact c11, by rw [(hA.2.1 1 (by omega)).1, (hA.2.1 1 (by omega)).2]; exact e1, fun j hj => ?_, e4, e5, e6, e7.keep (fun k i p h => h.A hA (.inl (by rcases h.1 with e | e | e | e <;> omega)))⟩
  · by_cases e : j = 3
    · rw [e, hA.1, hL]
      exact hb
    · rw [(hA.2.1 j e).1]
      exact e3 j hj
theorem md_K.a4 {L : List Int64} (hI : md_K N cb n vs ν iv b a) (hA : xr_A 4 n vs n' vs' L) (hL : L.length = 3) (hb : n 4 + 3 ≤ 2 * a) (hp : mp3 N (n 4 / 3) (fun j => (L.getD j 0).toInt)) : md_K N cb n' vs' ν iv b a := by
  obtain ⟨en, c0, c1, c2, c3, c4, c5, c6, c7, c8, c9, c10, c11, e1, e3, e4, e5, e6, e7⟩ := hI
  refine ⟨en, by rw [(hA.2.1 0 (by omega)).1, (hA.2.1 0 (by omega)).2]; exact c0, by rw [(hA.2.1 1 (by omega)).1, (hA.2.1 1 (by omega)).2]; exact c1, by rw [(hA.2.1 2 (by omega)).1, (hA.2.1 2 (by omega)).2]; exact c2, by rw [(hA.2.1 3 (by omega)).1, (hA.2.1 3 (by omega)).2]; exact c3, xr_L.app (by omega) c4 hA hL mp3_c (hp), by rw [(hA.2.1 5 (by omega)).1, (hA.2.1 5 (by omega)).2]; exact c5, by rw [(hA.2.1 6 (by omega)).1, (hA.2.1 6 (by omega)).2]; exact c6, by rw [(hA.2.1 7 (by omega)).1, (hA.2.1 7 (by omega)).2, (hA.2.1 8 (by omega)).1]; exact c7, by rw [(hA.2.1 8 (by omega)).1, (hA.2.1 8 (by omega)).2]; exact c8, by rw [(hA.2.1 9 (by omega)).1, (hA.2.1 9 (by omega)).2, (hA.2.1 10 (by omega)).1, (hA.2.1 10 (by omega)).2]; exact c9, by rw [(hA.2.1 10 (by omega)).1, (hA.2.1 10 (by omega)).2]; exact c10, by rw [(hA.2.1 11 (by omega)).1, (hA.2.1 11 (by omega)).2]; exact c11, by rw [(hA.2.1 1 (by omega)).1, (hA.2.1 1 (by omega)).2]; exact e1, fun j hj => ?_, e4, e5, e6, e7.keep (fun k i p h => h.A hA (.inl (by rcases h.1 with e | e | e | e <;> omega)))⟩
  · by_cases e : j = 4
    · rw [e, hA.1, hL]
      exact hb
    · rw [(hA.2.1 j e).1]
      exact e3 j hj
theorem md_K.a6 {L : List Int64} (hI : md_K N cb n vs ν iv b a) (hA : xr_A 6 n vs n' vs' L) (hL : L.length = 5) (hb : n 6 + 5 ≤ 2 * a) (hp : mp6 N (n 6 / 5) (fun j => (L.getD j 0).toInt)) : md_K N cb n' vs' ν iv b a := by
  obtain ⟨en, c0, c1, c2, c3, c4, c5, c6, c7, c8, c9, c10, c11, e1, e3, e4, e5, e6, e7⟩ := hI
  refine ⟨en, by rw [(hA.2.1 0 (by omega)).1, (hA.2.1 0 (by omega)).2]; exact c0, by rw [(hA.2.1 1 (by omega)).1, (hA.2.1 1 (by omega)).2]; exact c1, by rw [(hA.2.1 2 (by omega)).1, (hA.2.1 2 (by omega)).2]; exact c2, by rw [(hA.2.1 3 (by omega)).1, (hA.2.1 3 (by omega)).2]; exact c3, by rw [(hA.2.1 4 (by omega)).1, (hA.2.1 4 (by omega)).2]; exact c4, by rw [(hA.2.1 5 (by omega)).1, (hA.2.1 5 (by omega)).2]; exact c5, xr_L.app (by omega) c6 hA hL mp6_c (hp), by rw [(hA.2.1 7 (by omega)).1, (hA.2.1 7 (by omega)).2, (hA.2.1 8 (by omega)).1]; exact c7, by rw [(hA.2.1 8 (by omega)).1, (hA.2.1 8 (by omega)).2]; exact c8, by rw [(hA.2.1 9 (by omega)).1, (hA.2.1 9 (by omega)).2, (hA.2.1 10 (by omega)).1, (hA.2.1 10 (by omega)).2]; exact c9, by rw [(hA.2.1 10 (by omega)).1, (hA.2.1 10 (by omega)).2]; exact c10, by rw [(hA.2.1 11 (by omega)).1, (hA.2.1 11 (by omega)).2]; exact c11, by rw [(hA.2.1 1 (by omega)).1, (hA.2.1 1 (by omega)).2]; exact e1, fun j hj => ?_, e4, e5, e6, e7.keep (fun k i p h => h.A hA (.inl (by rcases h.1 with e | e | e | e <;> omega)))⟩
  · by_cases e : j = 6
    · rw [e, hA.1, hL]
      exact hb
    · rw [(hA.2.1 j e).1]
      exact e3 j hj
theorem md_K.a8 {L : List Int64} (hI : md_K N cb n vs ν iv b a) (hA : xr_A 8 n vs n' vs' L) (hL : L.length = 2) (hb : n 8 + 2 ≤ 2 * a) (hp : mp2 N (n 8 / 2) (fun j => (L.getD j 0).toInt)) : md_K N cb n' vs' ν iv b a := by
  obtain ⟨en, c0, c1, c2, c3, c4, c5, c6, c7, c8, c9, c10, c11, e1, e3, e4, e5, e6, e7⟩ := hI
  refine ⟨en, by rw [(hA.2.1 0 (by omega)).1, (hA.2.1 0 (by omega)).2]; exact c0, by rw [(hA.2.1 1 (by omega)).1, (hA.2.1 1 (by omega)).2]; exact c1, by rw [(hA.2.1 2 (by omega)).1, (hA.2.1 2 (by omega)).2]; exact c2, by rw [(hA.2.1 3 (by omega)).1, (hA.2.1 3 (by omega)).2]; exact c3, by rw [(hA.2.1 4 (by omega)).1, (hA.2.1 4 (by omega)).2]; exact c4, by rw [(hA.2.1 5 (by omega)).1, (hA.2.1 5 (by omega)).2]; exact c5, by rw [(hA.2.1 6 (by omega)).1, (hA.2.1 6 (by omega)).2]; exact c6, ?_, xr_L.app (by omega) c8 hA hL mp2_c (hp), by rw [(hA.2.1 9 (by omega)).1, (hA.2.1 9 (by omega)).2, (hA.2.1 10 (by omega)).1, (hA.2.1 10 (by omega)).2]; exact c9, by rw [(hA.2.1 10 (by omega)).1, (hA.2.1 10 (by omega)).2]; exact c10, by rw [(hA.2.1 11 (by omega)).1, (hA.2.1 11 (by omega)).2]; exact c11, by rw [(hA.2.1 1 (by omega)).1, (hA.2.1 1 (by omega)).2]; exact e1, fun j hj => ?_, e4, e5, e6, e7.keep (fun k i p h => h.A hA (.inl (by rcases h.1 with e | e | e | e <;> omega)))⟩
  · rw [(hA.2.1 7 (by omega)).1, (hA.2.1 7 (by omega)).2]
    refine c7.mono rfl (fun i w h => ?_)
    obtain ⟨a1, a2, a3, a4, a5, a6, a7, a8⟩ := h
    exact ⟨a1, a2, a3, a4, a5, a6, a7, by rw [hA.1]; omega⟩
  · by_cases e : j = 8
    · rw [e, hA.1, hL]
      exact hb
    · rw [(hA.2.1 j e).1]
      exact e3 j hj
theorem md_K.a10 {L : List Int64} (hI : md_K N cb n vs ν iv b a) (hA : xr_A 10 n vs n' vs' L) (hL : L.length = 2) (hb : n 10 + 2 ≤ 2 * a) (hp : mp10 (n 10 / 2) (fun j => (L.getD j 0).toInt)) : md_K N cb n' vs' ν iv b a := by
  obtain ⟨en, c0, c1, c2, c3, c4, c5, c6, c7, c8, c9, c10, c11, e1, e3, e4, e5, e6, e7⟩ := hI
  refine ⟨en, by rw [(hA.2.1 0 (by omega)).1, (hA.2.1 0 (by omega)).2]; exact c0, by rw [(hA.2.1 1 (by omega)).1, (hA.2.1 1 (by omega)).2]; exact c1, by rw [(hA.2.1 2 (by omega)).1, (hA.2.1 2 (by omega)).2]; exact c2, by rw [(hA.2.1 3 (by omega)).1, (hA.2.1 3 (by omega)).2]; exact c3, by rw [(hA.2.1 4 (by omega)).1, (hA.2.1 4 (by omega)).2]; exact c4, by rw [(hA.2.1 5 (by omega)).1, (hA.2.1 5 (by omega)).2]; exact c5, by rw [(hA.2.1 6 (by omega)).1, (hA.2.1 6 (by omega)).2]; exact c6, by rw [(hA.2.1 7 (by omega)).1, (hA.2.1 7 (by omega)).2, (hA.2.1 8 (by omega)).1]; exact c7, by rw [(hA.2.1 8 (by omega)).1, (hA.2.1 8 (by omega)).2]; exact c8, ?_, xr_L.app (by omega) c10 hA hL mp10_c (hp), by rw [(hA.2.1 11 (by omega)).1, (hA.2.1 11 (by omega)).2]; exact c11, by rw [(hA.2.1 1 (by omega)).1, (hA.2.1 1 (by omega)).2]; exact e1, fun j hj => ?_, e4, e5, e6, e7.keep (fun k i p h => h.A hA (.inl (by rcases h.1 with e | e | e | e <;> omega)))⟩
  · rw [(hA.2.1 9 (by omega)).1, (hA.2.1 9 (by omega)).2]
    refine c9.mono rfl (fun i w h => ?_)
    obtain ⟨a1, a2, a3, a4, a5, a6, a7⟩ := h
    refine ⟨a1, a2, a3, a4, a5, by rw [hA.1]; omega, ?_⟩
    rw [gsum_congr _ (fun j hj => hA.2.2.1 j (by omega))]
    exact a7
  · by_cases e : j = 10
    · rw [e, hA.1, hL]
      exact hb
    · rw [(hA.2.1 j e).1]
      exact e3 j hj
theorem md_K.a5 {L : List Int64} (hI : md_K N cb n vs ν iv b a) (hA : xr_A 5 n vs n' vs' L) (hL : L.length = 4) (hb : n 5 + 4 ≤ 2 * a) (hlt : ((n 5 / 4 : Nat) : Int) < (iv 3).toInt) (hp : ∀ en, mp5 N cb ν b en (iv 3).toInt (n 5 / 4) (fun j => (L.getD j 0).toInt)) : md_K N cb n' vs' ν iv b a := by
  obtain ⟨en, c0, c1, c2, c3, c4, c5, c6, c7, c8, c9, c10, c11, e1, e3, e4, e5, e6, e7⟩ := hI
  refine ⟨en, by rw [(hA.2.1 0 (by omega)).1, (hA.2.1 0 (by omega)).2]; exact c0, by rw [(hA.2.1 1 (by omega)).1, (hA.2.1 1 (by omega)).2]; exact c1, by rw [(hA.2.1 2 (by omega)).1, (hA.2.1 2 (by omega)).2]; exact c2, by rw [(hA.2.1 3 (by omega)).1, (hA.2.1 3 (by omega)).2]; exact c3, by rw [(hA.2.1 4 (by omega)).1, (hA.2.1 4 (by omega)).2]; exact c4, xr_L.app (by omega) c5 hA hL mp5_c (hp en), by rw [(hA.2.1 6 (by omega)).1, (hA.2.1 6 (by omega)).2]; exact c6, by rw [(hA.2.1 7 (by omega)).1, (hA.2.1 7 (by omega)).2, (hA.2.1 8 (by omega)).1]; exact c7, by rw [(hA.2.1 8 (by omega)).1, (hA.2.1 8 (by omega)).2]; exact c8, by rw [(hA.2.1 9 (by omega)).1, (hA.2.1 9 (by omega)).2, (hA.2.1 10 (by omega)).1, (hA.2.1 10 (by omega)).2]; exact c9, by rw [(hA.2.1 10 (by omega)).1, (hA.2.1 10 (by omega)).2]; exact c10, by rw [(hA.2.1 11 (by omega)).1, (hA.2.1 11 (by omega)).2]; exact c11, by rw [(hA.2.1 1 (by omega)).1, (hA.2.1 1 (by omega)).2]; exact e1, fun j hj => ?_, e4, e5, e6, e7.keep (fun k i p h => h.A hA ?_)⟩
  · by_cases e : j = 5
    · rw [e, hA.1, hL]
      exact hb
    · rw [(hA.2.1 j e).1]
      exact e3 j hj
  · by_cases e : k = 5
    · subst e
      obtain ⟨m5, hm5, -⟩ := c5
      obtain ⟨h1, h2, h3, h4⟩ := h
      have h5 := h3 rfl
      refine .inr ?_
      have hc : xr_c 5 = 4 := rfl
      rw [hc] at h2 ⊢
      rw [hA.1, hL] at h2
      omega
    · exact .inl e
theorem md_K.x5 {L : List Int64} {p e : Nat} (hI : md_K N cb n vs ν iv b a) (hA : xr_A 5 n vs n' vs' L) (hL : L.length = 4) (hb : n 5 + 4 ≤ 2 * a) (hbp : b ≤ p) (hpe : p < e) (heb : e ≤ b') (hba : b' ≤ a) (hof : (L.getD 3 0).toInt = p) (hwk : ∃ m, wk cb ν e m p [])
    (hp : ∀ en : Nat → Nat → Nat, mex cb ν b' p (en 5 (n 5 / 4)) → mp5 N cb ν b' en (iv 3).toInt (n 5 / 4) (fun j => (L.getD j 0).toInt)) : md_K N cb n' vs' ν iv b' a := by
  obtain ⟨en, hJ⟩ := hI
  obtain ⟨en', hen⟩ : ∃ en' : Nat → Nat → Nat, en' = fun k i => if k = 5 ∧ i = n 5 / 4 then e else en k i := ⟨_, rfl⟩
  have hne : ∀ k i, ¬ (k = 5 ∧ i = n 5 / 4) → en' k i = en k i := fun k i h => by rw [hen]; exact if_neg h
  have hnn : en' 5 (n 5 / 4) = e := by rw [hen]; exact if_pos ⟨rfl, rfl⟩
  have hJo := hJ.2.2.2.2.2.2.2.2.2.2.2.2.2.2.2.2.2
  have hends : ∀ k i p, md_V n vs iv k i p → (en k i : Int) ≤ b := by
    obtain ⟨c0, c1, c2, c3, c4, c5, c6, c7, c8, c9, c10, c11, e1, e3, e4, e5, e6, e7⟩ := hJ
    intro k i p hv
    obtain ⟨v1, v2, v3, v4⟩ := hv
    rcases v1 with rfl | rfl | rfl | rfl
    · obtain ⟨q, -⟩ := c5.at (by omega) (i := i) (by have hc : xr_c 5 = 4 := rfl; rw [hc] at v2; omega)
      obtain ⟨-, -, -, -, -, -, q7⟩ := q
      obtain ⟨_, _, _, _, q8, _⟩ := q7 (v3 rfl)
      omega
    · obtain ⟨q, -⟩ := c7.at (by omega) (i := i) (by have hc : xr_c 7 = 5 := rfl; rw [hc] at v2; omega)
      obtain ⟨-, -, -, -, ⟨_, _, _, _, q8, _⟩, -⟩ := q
      omega
    · obtain ⟨q, -⟩ := c9.at (by omega) (i := i) (by have hc : xr_c 9 = 5 := rfl; rw [hc] at v2; omega)
      obtain ⟨⟨_, _, _, _, q8, _⟩, -⟩ := q
      omega
    · obtain ⟨q, -⟩ := c11.at (by omega) (i := i) (by have hc : xr_c 11 = 5 := rfl; rw [hc] at v2; omega)
      obtain ⟨-, -, -, -, ⟨_, _, _, _, q8, _⟩, -⟩ := q
      omega
  have hJ2 := hJ.ex (b' := b') (ν' := ν) (by omega) (Nat.le_refl a) hba (fun _ _ => rfl) hJ.z
  obtain ⟨c0, c1, c2, c3, c4, c5, c6, c7, c8, c9, c10, c11, e1, e3, e4, e5, e6, e7⟩ := hJ2
  have hold : ∀ (k c : Nat), xr_c k = c → 0 < c → ∀ i, c * i < n k → (∃ m, n k = c * m) → en' k i = en k i := by
    intro k c hc h0 i hi ⟨m, hm⟩
    refine hne k i (fun h9 => ?_)
    obtain ⟨rfl, h10⟩ := h9
    have hc9 : xr_c 5 = 4 := rfl
    rw [hc9] at hc
    subst hc
    omega
  obtain ⟨m5, hm5, -⟩ := id c5
  obtain ⟨m7, hm7, -⟩ := id c7
  obtain ⟨m9, hm9, -⟩ := id c9
  obtain ⟨m11, hm11, -⟩ := id c11
  have c5 : xr_L 4 (mp5 N cb ν b' en' (iv 3).toInt) (n 5) (vs 5) := c5.mono2 (by omega) (fun i w hi h => by
    obtain ⟨a1, a2, a3, a4, a5, a6, a7⟩ := h
    exact ⟨a1, a2, a3, a4, a5, a6, by rw [hold 5 4 rfl (by omega) i hi ⟨m5, hm5⟩]; exact a7⟩)
  have c7 : xr_L 5 (mp7 N cb ν b' en' (n 8)) (n 7) (vs 7) := c7.mono2 (by omega) (fun i w hi h => by
    obtain ⟨a1, a2, a3, a4, a5, a6⟩ := h
    exact ⟨a1, a2, a3, a4, by rw [hold 7 5 rfl (by omega) i hi ⟨m7, hm7⟩]; exact a5, a6⟩)
  have c9 : xr_L 5 (mp9 cb ν b' en' (n 10) (vs 10)) (n 9) (vs 9) := c9.mono2 (by omega) (fun i w hi h => by
    obtain ⟨a1, a2⟩ := h
    exact ⟨by rw [hold 9 5 rfl (by omega) i hi ⟨m9, hm9⟩]; exact a1, a2⟩)
  have c11 : xr_L 5 (mp11 N cb ν b' en') (n 11) (vs 11) := c11.mono2 (by omega) (fun i w hi h => by
    obtain ⟨a1, a2, a3, a4, a5, a6⟩ := h
    exact ⟨a1, a2, a3, a4, by rw [hold 11 5 rfl (by omega) i hi ⟨m11, hm11⟩]; exact a5, a6⟩)
  obtain ⟨mw, hmw⟩ := hwk
  refine ⟨en', by rw [(hA.2.1 0 (by omega)).1, (hA.2.1 0 (by omega)).2]; exact c0, by rw [(hA.2.1 1 (by omega)).1, (hA.2.1 1 (by omega)).2]; exact c1, by rw [(hA.2.1 2 (by omega)).1, (hA.2.1 2 (by omega)).2]; exact c2, by rw [(hA.2.1 3 (by omega)).1, (hA.2.1 3 (by omega)).2]; exact c3, by rw [(hA.2.1 4 (by omega)).1, (hA.2.1 4 (by omega)).2]; exact c4, xr_L.app (by omega) c5 hA hL mp5_c (hp en' ⟨p, mw, rfl, by rw [hnn]; exact hpe, by rw [hnn]; exact heb, by rw [hnn]; exact hmw⟩), by rw [(hA.2.1 6 (by omega)).1, (hA.2.1 6 (by omega)).2]; exact c6, by rw [(hA.2.1 7 (by omega)).1, (hA.2.1 7 (by omega)).2, (hA.2.1 8 (by omega)).1]; exact c7, by rw [(hA.2.1 8 (by omega)).1, (hA.2.1 8 (by omega)).2]; exact c8, by rw [(hA.2.1 9 (by omega)).1, (hA.2.1 9 (by omega)).2, (hA.2.1 10 (by omega)).1, (hA.2.1 10 (by omega)).2]; exact c9, by rw [(hA.2.1 10 (by omega)).1, (hA.2.1 10 (by omega)).2]; exact c10, by rw [(hA.2.1 11 (by omega)).1, (hA.2.1 11 (by omega)).2]; exact c11, by rw [(hA.2.1 1 (by omega)).1, (hA.2.1 1 (by omega)).2]; exact e1, fun j hj => ?_, e4, e5, e6, fun k1 i1 p1 k2 i2 p2 h1 h2 h3 => ?_⟩
  · by_cases e : j = 5
    · rw [e, hA.1, hL]
      exact hb
    · rw [(hA.2.1 j e).1]
      exact e3 j hj
  · have hc9 : xr_c 5 = 4 := rfl
    have cls : ∀ k i q, md_V n' vs' iv k i q → (k = 5 ∧ i = n 5 / 4 ∧ q = p) ∨ (md_V n vs iv k i q ∧ ¬ (k = 5 ∧ i = n 5 / 4)) := by
      intro k i q h
      by_cases e9 : k = 5 ∧ i = n 5 / 4
      · obtain ⟨rfl, rfl⟩ := e9
        refine .inl ⟨rfl, rfl, ?_⟩
        obtain ⟨-, -, -, h4⟩ := h
        rw [hc9, show md_off 5 = 3 from rfl, show 4 * (n 5 / 4) + 3 = n 5 + 3 by omega, hA.2.2.2 3 (by omega), hof] at h4
        exact h4.symm
      · refine .inr ⟨h.A hA ?_, e9⟩
        by_cases e8 : k = 5
        · subst e8
          refine .inr ?_
          have h2 := h.2.1
          rw [hc9] at h2 ⊢
          rw [hA.1, hL] at h2
          omega
        · exact .inl e8
    rcases cls k1 i1 p1 h1 with ⟨rfl, rfl, rfl⟩ | ⟨v1, w1⟩ <;> rcases cls k2 i2 p2 h2 with ⟨rfl, rfl, rfl⟩ | ⟨v2, w2⟩
    · exact absurd ⟨rfl, rfl⟩ h3
    · refine .inr ?_
      rw [hne k2 i2 w2]
      have := hends k2 i2 p2 v2
      omega
    · refine .inl ?_
      rw [hne k1 i1 w1]
      have := hends k1 i1 p1 v1
      omega
    · rw [hne k1 i1 w1, hne k2 i2 w2]
      exact hJo k1 i1 p1 k2 i2 p2 v1 v2 h3
theorem md_K.x7 {L : List Int64} {p e : Nat} (hI : md_K N cb n vs ν iv b a) (hA : xr_A 7 n vs n' vs' L) (hL : L.length = 5) (hb : n 7 + 5 ≤ 2 * a) (hbp : b ≤ p) (hpe : p < e) (heb : e ≤ b') (hba : b' ≤ a) (hof : (L.getD 2 0).toInt = p) (hwk : ∃ m, wk cb ν e m p [])
    (hp : ∀ en : Nat → Nat → Nat, mex cb ν b' p (en 7 (n 7 / 5)) → mp7 N cb ν b' en (n 8) (n 7 / 5) (fun j => (L.getD j 0).toInt)) : md_K N cb n' vs' ν iv b' a := by
  obtain ⟨en, hJ⟩ := hI
  obtain ⟨en', hen⟩ : ∃ en' : Nat → Nat → Nat, en' = fun k i => if k = 7 ∧ i = n 7 / 5 then e else en k i := ⟨_, rfl⟩
  have hne : ∀ k i, ¬ (k = 7 ∧ i = n 7 / 5) → en' k i = en k i := fun k i h => by rw [hen]; exact if_neg h
  have hnn : en' 7 (n 7 / 5) = e := by rw [hen]; exact if_pos ⟨rfl, rfl⟩
  have hJo := hJ.2.2.2.2.2.2.2.2.2.2.2.2.2.2.2.2.2
  have hends : ∀ k i p, md_V n vs iv k i p → (en k i : Int) ≤ b := by
    obtain ⟨c0, c1, c2, c3, c4, c5, c6, c7, c8, c9, c10, c11, e1, e3, e4, e5, e6, e7⟩ := hJ
    intro k i p hv
    obtain ⟨v1, v2, v3, v4⟩ := hv
    rcases v1 with rfl | rfl | rfl | rfl
    · obtain ⟨q, -⟩ := c5.at (by omega) (i := i) (by have hc : xr_c 5 = 4 := rfl; rw [hc] at v2; omega)
      obtain ⟨-, -, -, -, -, -, q7⟩ := q
      obtain ⟨_, _, _, _, q8, _⟩ := q7 (v3 rfl)
      omega
    · obtain ⟨q, -⟩ := c7.at (by omega) (i := i) (by have hc : xr_c 7 = 5 := rfl; rw [hc] at v2; omega)
      obtain ⟨-, -, -, -, ⟨_, _, _, _, q8, _⟩, -⟩ := q
      omega
    · obtain ⟨q, -⟩ := c9.at (by omega) (i := i) (by have hc : xr_c 9 = 5 := rfl; rw [hc] at v2; omega)
      obtain ⟨⟨_, _, _, _, q8, _⟩, -⟩ := q
      omega
    · obtain ⟨q, -⟩ := c11.at (by omega) (i := i) (by have hc : xr_c 11 = 5 := rfl; rw [hc] at v2; omega)
      obtain ⟨-, -, -, -, ⟨_, _, _, _, q8, _⟩, -⟩ := q
      omega
  have hJ2 := hJ.ex (b' := b') (ν' := ν) (by omega) (Nat.le_refl a) hba (fun _ _ => rfl) hJ.z
  obtain ⟨c0, c1, c2, c3, c4, c5, c6, c7, c8, c9, c10, c11, e1, e3, e4, e5, e6, e7⟩ := hJ2
  have hold : ∀ (k c : Nat), xr_c k = c → 0 < c → ∀ i, c * i < n k → (∃ m, n k = c * m) → en' k i = en k i := by
    intro k c hc h0 i hi ⟨m, hm⟩
    refine hne k i (fun h9 => ?_)
    obtain ⟨rfl, h10⟩ := h9
    have hc9 : xr_c 7 = 5 := rfl
    rw [hc9] at hc
    subst hc
    omega
  obtain ⟨m5, hm5, -⟩ := id c5
  obtain ⟨m7, hm7, -⟩ := id c7
  obtain ⟨m9, hm9, -⟩ := id c9
  obtain ⟨m11, hm11, -⟩ := id c11
  have c5 : xr_L 4 (mp5 N cb ν b' en' (iv 3).toInt) (n 5) (vs 5) := c5.mono2 (by omega) (fun i w hi h => by
    obtain ⟨a1, a2, a3, a4, a5, a6, a7⟩ := h
    exact ⟨a1, a2, a3, a4, a5, a6, by rw [hold 5 4 rfl (by omega) i hi ⟨m5, hm5⟩]; exact a7⟩)
  have c7 : xr_L 5 (mp7 N cb ν b' en' (n 8)) (n 7) (vs 7) := c7.mono2 (by omega) (fun i w hi h => by
    obtain ⟨a1, a2, a3, a4, a5, a6⟩ := h
    exact ⟨a1, a2, a3, a4, by rw [hold 7 5 rfl (by omega) i hi ⟨m7, hm7⟩]; exact a5, a6⟩)
  have c9 : xr_L 5 (mp9 cb ν b' en' (n 10) (vs 10)) (n 9) (vs 9) := c9.mono2 (by omega) (fun i w hi h => by
    obtain ⟨a1, a2⟩ := h
    exact ⟨by rw [hold 9 5 rfl (by omega) i hi ⟨m9, hm9⟩]; exact a1, a2⟩)
  have c11 : xr_L 5 (mp11 N cb ν b' en') (n 11) (vs 11) := c11.mono2 (by omega) (fun i w hi h => by
    obtain ⟨a1, a2, a3, a4, a5, a6⟩ := h
    exact ⟨a1, a2, a3, a4, by rw [hold 11 5 rfl (by omega) i hi ⟨m11, hm11⟩]; exact a5, a6⟩)
  obtain ⟨mw, hmw⟩ := hwk
  refine ⟨en', by rw [(hA.2.1 0 (by omega)).1, (hA.2.1 0 (by omega)).2]; exact c0, by rw [(hA.2.1 1 (by omega)).1, (hA.2.1 1 (by omega)).2]; exact c1, by rw [(hA.2.1 2 (by omega)).1, (hA.2.1 2 (by omega)).2]; exact c2, by rw [(hA.2.1 3 (by omega)).1, (hA.2.1 3 (by omega)).2]; exact c3, by rw [(hA.2.1 4 (by omega)).1, (hA.2.1 4 (by omega)).2]; exact c4, by rw [(hA.2.1 5 (by omega)).1, (hA.2.1 5 (by omega)).2]; exact c5, by rw [(hA.2.1 6 (by omega)).1, (hA.2.1 6 (by omega)).2]; exact c6, by rw [(hA.2.1 8 (by omega)).1]; exact xr_L.app (by omega) c7 hA hL mp7_c (hp en' ⟨p, mw, rfl, by rw [hnn]; exact hpe, by rw [hnn]; exact heb, by rw [hnn]; exact hmw⟩), by rw [(hA.2.1 8 (by omega)).1, (hA.2.1 8 (by omega)).2]; exact c8, by rw [(hA.2.1 9 (by omega)).1, (hA.2.1 9 (by omega)).2, (hA.2.1 10 (by omega)).1, (hA.2.1 10 (by omega)).2]; exact c9, by rw [(hA.2.1 10 (by omega)).1, (hA.2.1 10 (by omega)).2]; exact c10, by rw [(hA.2.1 11 (by omega)).1, (hA.2.1 11 (by omega)).2]; exact c11, by rw [(hA.2.1 1 (by omega)).1, (hA.2.1 1 (by omega)).2]; exact e1, fun j hj => ?_, e4, e5, e6, fun k1 i1 p1 k2 i2 p2 h1 h2 h3 => ?_⟩
  · by_cases e : j = 7
    · rw [e, hA.1, hL]
      exact hb
    · rw [(hA.2.1 j e).1]
      exact e3 j hj
  · have hc9 : xr_c 7 = 5 := rfl
    have cls : ∀ k i q, md_V n' vs' iv k i q → (k = 7 ∧ i = n 7 / 5 ∧ q = p) ∨ (md_V n vs iv k i q ∧ ¬ (k = 7 ∧ i = n 7 / 5)) := by
      intro k i q h
      by_cases e9 : k = 7 ∧ i = n 7 / 5
      · obtain ⟨rfl, rfl⟩ := e9
        refine .inl ⟨rfl, rfl, ?_⟩
        obtain ⟨-, -, -, h4⟩ := h
        rw [hc9, show md_off 7 = 2 from rfl, show 5 * (n 7 / 5) + 2 = n 7 + 2 by omega, hA.2.2.2 2 (by omega), hof] at h4
        exact h4.symm
      · refine .inr ⟨h.A hA ?_, e9⟩
        by_cases e8 : k = 7
        · subst e8
          refine .inr ?_
          have h2 := h.2.1
          rw [hc9] at h2 ⊢
          rw [hA.1, hL] at h2
          omega
        · exact .inl e8
    rcases cls k1 i1 p1 h1 with ⟨rfl, rfl, rfl⟩ | ⟨v1, w1⟩ <;> rcases cls k2 i2 p2 h2 with ⟨rfl, rfl, rfl⟩ | ⟨v2, w2⟩
    · exact absurd ⟨rfl, rfl⟩ h3
    · refine .inr ?_
      rw [hne k2 i2 w2]
      have := hends k2 i2 p2 v2
      omega
    · refine .inl ?_
      rw [hne k1 i1 w1]
      have := hends k1 i1 p1 v1
      omega
    · rw [hne k1 i1 w1, hne k2 i2 w2]
      exact hJo k1 i1 p1 k2 i2 p2 v1 v2 h3
theorem md_K.x9 {L : List Int64} {p e : Nat} (hI : md_K N cb n vs ν iv b a) (hA : xr_A 9 n vs n' vs' L) (hL : L.length = 5) (hb : n 9 + 5 ≤ 2 * a) (hbp : b ≤ p) (hpe : p < e) (heb : e ≤ b') (hba : b' ≤ a) (hof : (L.getD 0 0).toInt = p) (hwk : ∃ m, wk cb ν e m p [])
    (hp : ∀ en : Nat → Nat → Nat, mex cb ν b' p (en 9 (n 9 / 5)) → mp9 cb ν b' en (n 10) (vs 10) (n 9 / 5) (fun j => (L.getD j 0).toInt)) : md_K N cb n' vs' ν iv b' a := by
  obtain ⟨en, hJ⟩ := hI
  obtain ⟨en', hen⟩ : ∃ en' : Nat → Nat → Nat, en' = fun k i => if k = 9 ∧ i = n 9 / 5 then e else en k i := ⟨_, rfl⟩
  have hne : ∀ k i, ¬ (k = 9 ∧ i = n 9 / 5) → en' k i = en k i := fun k i h => by rw [hen]; exact if_neg h
  have hnn : en' 9 (n 9 / 5) = e := by rw [hen]; exact if_pos ⟨rfl, rfl⟩
  have hJo := hJ.2.2.2.2.2.2.2.2.2.2.2.2.2.2.2.2.2
  have hends : ∀ k i p, md_V n vs iv k i p → (en k i : Int) ≤ b := by
    obtain ⟨c0, c1, c2, c3, c4, c5, c6, c7, c8, c9, c10, c11, e1, e3, e4, e5, e6, e7⟩ := hJ
    intro k i p hv
    obtain ⟨v1, v2, v3, v4⟩ := hv
    rcases v1 with rfl | rfl | rfl | rfl
    · obtain ⟨q, -⟩ := c5.at (by omega) (i := i) (by have hc : xr_c 5 = 4 := rfl; rw [hc] at v2; omega)
      obtain ⟨-, -, -, -, -, -, q7⟩ := q
      obtain ⟨_, _, _, _, q8, _⟩ := q7 (v3 rfl)
      omega
    · obtain ⟨q, -⟩ := c7.at (by omega) (i := i) (by have hc : xr_c 7 = 5 := rfl; rw [hc] at v2; omega)
      obtain ⟨-, -, -, -, ⟨_, _, _, _, q8, _⟩, -⟩ := q
      omega
    · obtain ⟨q, -⟩ := c9.at (by omega) (i := i) (by have hc : xr_c 9 = 5 := rfl; rw [hc] at v2; omega)
      obtain ⟨⟨_, _, _, _, q8, _⟩, -⟩ := q
      omega
    · obtain ⟨q, -⟩ := c11.at (by omega) (i := i) (by have hc : xr_c 11 = 5 := rfl; rw [hc] at v2; omega)
      obtain ⟨-, -, -, -, ⟨_, _, _, _, q8, _⟩, -⟩ := q
      omega
  have hJ2 := hJ.ex (b' := b') (ν' := ν) (by omega) (Nat.le_refl a) hba (fun _ _ => rfl) hJ.z
  obtain ⟨c0, c1, c2, c3, c4, c5, c6, c7, c8, c9, c10, c11, e1, e3, e4, e5, e6, e7⟩ := hJ2
  have hold : ∀ (k c : Nat), xr_c k = c → 0 < c → ∀ i, c * i < n k → (∃ m, n k = c * m) → en' k i = en k i := by
    intro k c hc h0 i hi ⟨m, hm⟩
    refine hne k i (fun h9 => ?_)
    obtain ⟨rfl, h10⟩ := h9
    have hc9 : xr_c 9 = 5 := rfl
    rw [hc9] at hc
    subst hc
    omega
  obtain ⟨m5, hm5, -⟩ := id c5
  obtain ⟨m7, hm7, -⟩ := id c7
  obtain ⟨m9, hm9, -⟩ := id c9
  obtain ⟨m11, hm11, -⟩ := id c11
  have c5 : xr_L 4 (mp5 N cb ν b' en' (iv 3).toInt) (n 5) (vs 5) := c5.mono2 (by omega) (fun i w hi h => by
    obtain ⟨a1, a2, a3, a4, a5, a6, a7⟩ := h
    exact ⟨a1, a2, a3, a4, a5, a6, by rw [hold 5 4 rfl (by omega) i hi ⟨m5, hm5⟩]; exact a7⟩)
  have c7 : xr_L 5 (mp7 N cb ν b' en' (n 8)) (n 7) (vs 7) := c7.mono2 (by omega) (fun i w hi h => by
    obtain ⟨a1, a2, a3, a4, a5, a6⟩ := h
    exact ⟨a1, a2, a3, a4, by rw [hold 7 5 rfl (by omega) i hi ⟨m7, hm7⟩]; exact a5, a6⟩)
  have c9 : xr_L 5 (mp9 cb ν b' en' (n 10) (vs 10)) (n 9) (vs 9) := c9.mono2 (by omega) (fun i w hi h => by
    obtain ⟨a1, a2⟩ := h
    exact ⟨by rw [hold 9 5 rfl (by omega) i hi ⟨m9, hm9⟩]; exact a1, a2⟩)
  have c11 : xr_L 5 (mp11 N cb ν b' en') (n 11) (vs 11) := c11.mono2 (by omega) (fun i w hi h => by
    obtain ⟨a1, a2, a3, a4, a5, a6⟩ := h
    exact ⟨a1, a2, a3, a4, by rw [hold 11 5 rfl (by omega) i hi ⟨m11, hm11⟩]; exact a5, a6⟩)
  obtain ⟨mw, hmw⟩ := hwk
  refine ⟨en', by rw [(hA.2.1 0 (by omega)).1, (hA.2.1 0 (by omega)).2]; exact c0, by rw [(hA.2.1 1 (by omega)).1, (hA.2.1 1 (by omega)).2]; exact c1, by rw [(hA.2.1 2 (by omega)).1, (hA.2.1 2 (by omega)).2]; exact c2, by rw [(hA.2.1 3 (by omega)).1, (hA.2.1 3 (by omega)).2]; exact c3, by rw [(hA.2.1 4 (by omega)).1, (hA.2.1 4 (by omega)).2]; exact c4, by rw [(hA.2.1 5 (by omega)).1, (hA.2.1 5 (by omega)).2]; exact c5, by rw [(hA.2.1 6 (by omega)).1, (hA.2.1 6 (by omega)).2]; exact c6, by rw [(hA.2.1 7 (by omega)).1, (hA.2.1 7 (by omega)).2, (hA.2.1 8 (by omega)).1]; exact c7, by rw [(hA.2.1 8 (by omega)).1, (hA.2.1 8 (by omega)).2]; exact c8, by rw [(hA.2.1 10 (by omega)).1, (hA.2.1 10 (by omega)).2]; exact xr_L.app (by omega) c9 hA hL mp9_c (hp en' ⟨p, mw, rfl, by rw [hnn]; exact hpe, by rw [hnn]; exact heb, by rw [hnn]; exact hmw⟩), by rw [(hA.2.1 10 (by omega)).1, (hA.2.1 10 (by omega)).2]; exact c10, by rw [(hA.2.1 11 (by omega)).1, (hA.2.1 11 (by omega)).2]; exact c11, by rw [(hA.2.1 1 (by omega)).1, (hA.2.1 1 (by omega)).2]; exact e1, fun j hj => ?_, e4, e5, e6, fun k1 i1 p1 k2 i2 p2 h1 h2 h3 => ?_⟩
  · by_cases e : j = 9
    · rw [e, hA.1, hL]
      exact hb
    · rw [(hA.2.1 j e).1]
      exact e3 j hj
  · have hc9 : xr_c 9 = 5 := rfl
    have cls : ∀ k i q, md_V n' vs' iv k i q → (k = 9 ∧ i = n 9 / 5 ∧ q = p) ∨ (md_V n vs iv k i q ∧ ¬ (k = 9 ∧ i = n 9 / 5)) := by
      intro k i q h
      by_cases e9 : k = 9 ∧ i = n 9 / 5
      · obtain ⟨rfl, rfl⟩ := e9
        refine .inl ⟨rfl, rfl, ?_⟩
        obtain ⟨-, -, -, h4⟩ := h
        rw [hc9, show md_off 9 = 0 from rfl, show 5 * (n 9 / 5) + 0 = n 9 + 0 by omega, hA.2.2.2 0 (by omega), hof] at h4
        exact h4.symm
      · refine .inr ⟨h.A hA ?_, e9⟩
        by_cases e8 : k = 9
        · subst e8
          refine .inr ?_
          have h2 := h.2.1
          rw [hc9] at h2 ⊢
          rw [hA.1, hL] at h2
          omega
        · exact .inl e8
    rcases cls k1 i1 p1 h1 with ⟨rfl, rfl, rfl⟩ | ⟨v1, w1⟩ <;> rcases cls k2 i2 p2 h2 with ⟨rfl, rfl, rfl⟩ | ⟨v2, w2⟩
    · exact absurd ⟨rfl, rfl⟩ h3
    · refine .inr ?_
      rw [hne k2 i2 w2]
      have := hends k2 i2 p2 v2
      omega
    · refine .inl ?_
      rw [hne k1 i1 w1]
      have := hends k1 i1 p1 v1
      omega
    · rw [hne k1 i1 w1, hne k2 i2 w2]
      exact hJo k1 i1 p1 k2 i2 p2 v1 v2 h3
theorem md_K.x11 {L : List Int64} {p e : Nat} (hI : md_K N cb n vs ν iv b a) (hA : xr_A 11 n vs n' vs' L) (hL : L.length = 5) (hb : n 11 + 5 ≤ 2 * a) (hbp : b ≤ p) (hpe : p < e) (heb : e ≤ b') (hba : b' ≤ a) (hof : (L.getD 2 0).toInt = p) (hwk : ∃ m, wk cb ν e m p [])
    (hp : ∀ en : Nat → Nat → Nat, mex cb ν b' p (en 11 (n 11 / 5)) → mp11 N cb ν b' en (n 11 / 5) (fun j => (L.getD j 0).toInt)) : md_K N cb n' vs' ν iv b' a := by
  obtain ⟨en, hJ⟩ := hI
  obtain ⟨en', hen⟩ : ∃ en' : Nat → Nat → Nat, en' = fun k i => if k = 11 ∧ i = n 11 / 5 then e else en k i := ⟨_, rfl⟩
  have hne : ∀ k i, ¬ (k = 11 ∧ i = n 11 / 5) → en' k i = en k i := fun k i h => by rw [hen]; exact if_neg h
  have hnn : en' 11 (n 11 / 5) = e := by rw [hen]; exact if_pos ⟨rfl, rfl⟩
  have hJo := hJ.2.2.2.2.2.2.2.2.2.2.2.2.2.2.2.2.2
  have hends : ∀ k i p, md_V n vs iv k i p → (en k i : Int) ≤ b := by
    obtain ⟨c0, c1, c2, c3, c4, c5, c6, c7, c8, c9, c10, c11, e1, e3, e4, e5, e6, e7⟩ := hJ
    intro k i p hv
    obtain ⟨v1, v2, v3, v4⟩ := hv
    rcases v1 with rfl | rfl | rfl | rfl
    · obtain ⟨q, -⟩ := c5.at (by omega) (i := i) (by have hc : xr_c 5 = 4 := rfl; rw [hc] at v2; omega)
      obtain ⟨-, -, -, -, -, -, q7⟩ := q
      obtain ⟨_, _, _, _, q8, _⟩ := q7 (v3 rfl)
      omega
    · obtain ⟨q, -⟩ := c7.at (by omega) (i := i) (by have hc : xr_c 7 = 5 := rfl; rw [hc] at v2; omega)
      obtain ⟨-, -, -, -, ⟨_, _, _, _, q8, _⟩, -⟩ := q
      omega
    · obtain ⟨q, -⟩ := c9.at (by omega) (i := i) (by have hc : xr_c 9 = 5 := rfl; rw [hc] at v2; omega)
      obtain ⟨⟨_, _, _, _, q8, _⟩, -⟩ := q
      omega
    · obtain ⟨q, -⟩ := c11.at (by omega) (i := i) (by have hc : xr_c 11 = 5 := rfl; rw [hc] at v2; omega)
      obtain ⟨-, -, -, -, ⟨_, _, _, _, q8, _⟩, -⟩ := q
      omega
  have hJ2 := hJ.ex (b' := b') (ν' := ν) (by omega) (Nat.le_refl a) hba (fun _ _ => rfl) hJ.z
  obtain ⟨c0, c1, c2, c3, c4, c5, c6, c7, c8, c9, c10, c11, e1, e3, e4, e5, e6, e7⟩ := hJ2
  have hold : ∀ (k c : Nat), xr_c k = c → 0 < c → ∀ i, c * i < n k → (∃ m, n k = c * m) → en' k i = en k i := by
    intro k c hc h0 i hi ⟨m, hm⟩
    refine hne k i (fun h9 => ?_)
    obtain ⟨rfl, h10⟩ := h9
    have hc9 : xr_c 11 = 5 := rfl
    rw [hc9] at hc
    subst hc
    omega
  obtain ⟨m5, hm5, -⟩ := id c5
  obtain ⟨m7, hm7, -⟩ := id c7
  obtain ⟨m9, hm9, -⟩ := id c9
  obtain ⟨m11, hm11, -⟩ := id c11
  have c5 : xr_L 4 (mp5 N cb ν b' en' (iv 3).toInt) (n 5) (vs 5) := c5.mono2 (by omega) (fun i w hi h => by
    obtain ⟨a1, a2, a3, a4, a5, a6, a7⟩ := h
    exact ⟨a1, a2, a3, a4, a5, a6, by rw [hold 5 4 rfl (by omega) i hi ⟨m5, hm5⟩]; exact a7⟩)
  have c7 : xr_L 5 (mp7 N cb ν b' en' (n 8)) (n 7) (vs 7) := c7.mono2 (by omega) (fun i w hi h => by
    obtain ⟨a1, a2, a3, a4, a5, a6⟩ := h
    exact ⟨a1, a2, a3, a4, by rw [hold 7 5 rfl (by omega) i hi ⟨m7, hm7⟩]; exact a5, a6⟩)
  have c9 : xr_L 5 (mp9 cb ν b' en' (n 10) (vs 10)) (n 9) (vs 9) := c9.mono2 (by omega) (fun i w hi h => by
    obtain ⟨a1, a2⟩ := h
    exact ⟨by rw [hold 9 5 rfl (by omega) i hi ⟨m9, hm9⟩]; exact a1, a2⟩)
  have c11 : xr_L 5 (mp11 N cb ν b' en') (n 11) (vs 11) := c11.mono2 (by omega) (fun i w hi h => by
    obtain ⟨a1, a2, a3, a4, a5, a6⟩ := h
    exact ⟨a1, a2, a3, a4, by rw [hold 11 5 rfl (by omega) i hi ⟨m11, hm11⟩]; exact a5, a6⟩)
  obtain ⟨mw, hmw⟩ := hwk
  refine ⟨en', by rw [(hA.2.1 0 (by omega)).1, (hA.2.1 0 (by omega)).2]; exact c0, by rw [(hA.2.1 1 (by omega)).1, (hA.2.1 1 (by omega)).2]; exact c1, by rw [(hA.2.1 2 (by omega)).1, (hA.2.1 2 (by omega)).2]; exact c2, by rw [(hA.2.1 3 (by omega)).1, (hA.2.1 3 (by omega)).2]; exact c3, by rw [(hA.2.1 4 (by omega)).1, (hA.2.1 4 (by omega)).2]; exact c4, by rw [(hA.2.1 5 (by omega)).1, (hA.2.1 5 (by omega)).2]; exact c5, by rw [(hA.2.1 6 (by omega)).1, (hA.2.1 6 (by omega)).2]; exact c6, by rw [(hA.2.1 7 (by omega)).1, (hA.2.1 7 (by omega)).2, (hA.2.1 8 (by omega)).1]; exact c7, by rw [(hA.2.1 8 (by omega)).1, (hA.2.1 8 (by omega)).2]; exact c8, by rw [(hA.2.1 9 (by omega)).1, (hA.2.1 9 (by omega)).2, (hA.2.1 10 (by omega)).1, (hA.2.1 10 (by omega)).2]; exact c9, by rw [(hA.2.1 10 (by omega)).1, (hA.2.1 10 (by omega)).2]; exact c10, xr_L.app (by omega) c11 hA hL mp11_c (hp en' ⟨p, mw, rfl, by rw [hnn]; exact hpe, by rw [hnn]; exact heb, by rw [hnn]; exact hmw⟩), by rw [(hA.2.1 1 (by omega)).1, (hA.2.1 1 (by omega)).2]; exact e1, fun j hj => ?_, e4, e5, e6, fun k1 i1 p1 k2 i2 p2 h1 h2 h3 => ?_⟩
  · by_cases e : j = 11
    · rw [e, hA.1, hL]
      exact hb
    · rw [(hA.2.1 j e).1]
      exact e3 j hj
  · have hc9 : xr_c 11 = 5 := rfl
    have cls : ∀ k i q, md_V n' vs' iv k i q → (k = 11 ∧ i = n 11 / 5 ∧ q = p) ∨ (md_V n vs iv k i q ∧ ¬ (k = 11 ∧ i = n 11 / 5)) := by
      intro k i q h
      by_cases e9 : k = 11 ∧ i = n 11 / 5
      · obtain ⟨rfl, rfl⟩ := e9
        refine .inl ⟨rfl, rfl, ?_⟩
        obtain ⟨-, -, -, h4⟩ := h
        rw [hc9, show md_off 11 = 2 from rfl, show 5 * (n 11 / 5) + 2 = n 11 + 2 by omega, hA.2.2.2 2 (by omega), hof] at h4
        exact h4.symm
      · refine .inr ⟨h.A hA ?_, e9⟩
        by_cases e8 : k = 11
        · subst e8
          refine .inr ?_
          have h2 := h.2.1
          rw [hc9] at h2 ⊢
          rw [hA.1, hL] at h2
          omega
        · exact .inl e8
    rcases cls k1 i1 p1 h1 with ⟨rfl, rfl, rfl⟩ | ⟨v1, w1⟩ <;> rcases cls k2 i2 p2 h2 with ⟨rfl, rfl, rfl⟩ | ⟨v2, w2⟩
    · exact absurd ⟨rfl, rfl⟩ h3
    · refine .inr ?_
      rw [hne k2 i2 w2]
      have := hends k2 i2 p2 v2
      omega
    · refine .inl ?_
      rw [hne k1 i1 w1]
      have := hends k1 i1 p1 v1
      omega
    · rw [hne k1 i1 w1, hne k2 i2 w2]
      exact hJo k1 i1 p1 k2 i2 p2 v1 v2 h3
/-- one import more: its line, and one more of its kind -/
theorem md_K.imp {L : List Int64} {iv' : Nat → Int32} {κ : Nat} (hI : md_K N cb n vs ν iv b a) (hA : xr_A 1 n vs n' vs' L) (hL : L.length = 7) (hb : n 1 + 7 ≤ 2 * a) (h5 : (n 5 : Int) = 4 * (iv 3).toInt) (hκ : κ < 4)
    (h1 : (L.getD 1 0).toInt = κ) (hv : (iv' κ).toInt = (iv κ).toInt + 1) (hv' : ∀ j, j < 4 → j ≠ κ → iv' j = iv j) (hp : mp1 N (vs 1) (n 1 / 7) (fun j => (L.getD j 0).toInt)) : md_K N cb n' vs' ν iv' b a := by
  obtain ⟨en, c0, c1, c2, c3, c4, c5, c6, c7, c8, c9, c10, c11, e1, e3, e4, e5, e6, e7⟩ := hI
  obtain ⟨m, hm, hm2⟩ := id c1
  have hdv : n 1 / 7 = m := by omega
  have hcg : ∀ (κ : Int) (i : Nat), i ≤ m → mcnt (vs' 1) κ i = mcnt (vs 1) κ i := fun κ i hi => mcnt_congr i (fun j hj => hA.2.2.1 j (by omega))
  have hc1 : xr_L 7 (mp1 N (vs' 1)) (n 1) (vs 1) := c1.mono2 (by omega) (fun i w hi h => by
    obtain ⟨a1, a2, a3, a4, a5, a6⟩ := h
    exact ⟨a1, a2, a3, a4, by rw [hcg _ i (by omega)]; exact a5, a6⟩)
  refine ⟨en, by rw [(hA.2.1 0 (by omega)).1, (hA.2.1 0 (by omega)).2]; exact c0, xr_L.app (by omega) hc1 hA hL mp1_c ?_, by rw [(hA.2.1 2 (by omega)).1, (hA.2.1 2 (by omega)).2]; exact c2, by rw [(hA.2.1 3 (by omega)).1, (hA.2.1 3 (by omega)).2]; exact c3, by rw [(hA.2.1 4 (by omega)).1, (hA.2.1 4 (by omega)).2]; exact c4, ?_, by rw [(hA.2.1 6 (by omega)).1, (hA.2.1 6 (by omega)).2]; exact c6, by rw [(hA.2.1 7 (by omega)).1, (hA.2.1 7 (by omega)).2, (hA.2.1 8 (by omega)).1]; exact c7, by rw [(hA.2.1 8 (by omega)).1, (hA.2.1 8 (by omega)).2]; exact c8, by rw [(hA.2.1 9 (by omega)).1, (hA.2.1 9 (by omega)).2, (hA.2.1 10 (by omega)).1, (hA.2.1 10 (by omega)).2]; exact c9, by rw [(hA.2.1 10 (by omega)).1, (hA.2.1 10 (by omega)).2]; exact c10, by rw [(hA.2.1 11 (by omega)).1, (hA.2.1 11 (by omega)).2]; exact c11, fun j hj => ?_, fun j hj => ?_, e4, e5, e6, e7.keep (fun k i p h => ?_)⟩
  · obtain ⟨a1, a2, a3, a4, a5, a6⟩ := hp
    exact ⟨a1, a2, a3, a4, by rw [hdv, hcg _ m (by omega)]; rw [hdv] at a5; exact a5, a6⟩
  · rw [(hA.2.1 5 (by omega)).1, (hA.2.1 5 (by omega)).2]
    refine c5.mono2 (by omega) (fun i w hi h => ?_)
    obtain ⟨a1, a2, a3, a4, a5, a6, a7⟩ := h
    have hi2 : (i : Int) < (iv 3).toInt := by omega
    refine ⟨a1, a2, a3, a4, a5, fun _ => a6 hi2, fun h9 => ?_⟩
    exfalso
    by_cases e : 3 = κ
    · subst e
      omega
    · rw [hv' 3 (by omega) e] at h9
      omega
  · have hd : n' 1 / 7 = m + 1 := by rw [hA.1, hL]; omega
    rw [hd]
    unfold mcnt
    have hk : vs' 1 (7 * m + 1) = L.getD 1 0 := by rw [← hA.2.2.2 1 (by omega), hm]
    rw [hcg _ m (by omega), hk, h1]
    have := e1 j hj
    rw [hdv] at this
    by_cases e : j = κ
    · subst e
      rw [if_pos rfl, hv, this]
      omega
    · rw [if_neg (by omega), hv' j hj e, this]
      omega
  · by_cases e : j = 1
    · rw [e, hA.1, hL]
      exact hb
    · rw [(hA.2.1 j e).1]
      exact e3 j hj
  · have h9 : md_V n vs iv' k i p := h.A hA (.inl (by rcases h.1 with e | e | e | e <;> omega))
    obtain ⟨q1, q2, q3, q4⟩ := h9
    refine ⟨q1, q2, fun e => ?_, q4⟩
    have q5 := q3 e
    by_cases e9 : 3 = κ
    · subst e9
      omega
    · rw [hv' 3 (by omega) e9] at q5
      exact q5
end MDI
