-- what a module's rows hold, line by line
def mex (cb ν : Nat → Int32) (a : Nat) (x : Int) : Prop := ∃ p m e : Nat, x = p ∧ e ≤ a ∧ wk cb ν e m p []
theorem mex.mono {cb ν ν' : Nat → Int32} {a a' : Nat} {x : Int} (h : mex cb ν a x) (ha : a ≤ a') (hν : ∀ j, j < a → ν' j = ν j) : mex cb ν' a' x := by
  obtain ⟨p, m, e, h1, h2, h3⟩ := h
  exact ⟨p, m, e, h1, by omega, wk.congr (fun j hj => hν j (by omega)) m p [] trivial h3⟩
def mcnt (v : Nat → Int64) (κ : Int) : Nat → Nat
  | 0 => 0
  | i + 1 => mcnt v κ i + (if (v (7 * i + 1)).toInt = κ then 1 else 0)
theorem mcnt_congr {v v' : Nat → Int64} {κ : Int} : ∀ (i : Nat), (∀ j, j < 7 * i → v' j = v j) → mcnt v' κ i = mcnt v κ i
  | 0, _ => rfl
  | i + 1, h => by
    unfold mcnt
    rw [mcnt_congr i (fun j hj => h j (by omega)), h (7 * i + 1) (by omega)]
def gsum (v : Nat → Int64) (f : Nat) : Nat → Int
  | 0 => 0
  | k + 1 => gsum v f k + (v (2 * (f + k))).toInt
theorem gsum_congr {v v' : Nat → Int64} {f : Nat} : ∀ (k : Nat), (∀ j, j < 2 * (f + k) → v' j = v j) → gsum v' f k = gsum v f k
  | 0, _ => rfl
  | k + 1, h => by
    unfold gsum
    rw [gsum_congr k (fun j hj => h j (by omega)), h (2 * (f + k)) (by omega)]
def mp0 (N : Nat) (cb : Nat → Int32) (_ : Nat) (w : Nat → Int) : Prop := 0 ≤ w 0 ∧ w 0 < N ∧ 0 ≤ w 1 ∧ 0 ≤ w 2 ∧ w 1 + w 2 ≤ N ∧ 0 ≤ w 3 ∧ w 3 ≤ N ∧ (w 3 = 0 → w 4 = 64) ∧ (0 < w 3 → 124 ≤ w 4 ∧ w 4 ≤ 127) ∧ ∀ j : Nat, w 1 ≤ j → (j : Int) < w 1 + w 2 → 124 ≤ (cb j).toInt ∧ (cb j).toInt ≤ 127
def mp1 (N : Nat) (v : Nat → Int64) (i : Nat) (w : Nat → Int) : Prop := 0 ≤ w 0 ∧ w 0 < N ∧ 0 ≤ w 1 ∧ w 1 ≤ 3 ∧ w 2 = mcnt v (w 1) i ∧ 0 ≤ w 3 ∧ 0 ≤ w 4 ∧ w 3 + w 4 ≤ N ∧ 0 ≤ w 5 ∧ 0 ≤ w 6 ∧ w 5 + w 6 ≤ N
def mp2 (N : Nat) (_ : Nat) (w : Nat → Int) : Prop := 0 ≤ w 0 ∧ w 0 < N ∧ 0 ≤ w 1 ∧ w 1 < 4294967296
def mp3 (N : Nat) (_ : Nat) (w : Nat → Int) : Prop := 0 ≤ w 0 ∧ w 0 < N ∧ 0 ≤ w 1 ∧ w 1 < 4294967296 ∧ (w 2 = -1 ∨ 0 ≤ w 2 ∧ w 2 < 4294967296)
def mp5 (N : Nat) (cb ν : Nat → Int32) (a : Nat) (k3 : Int) (i : Nat) (w : Nat → Int) : Prop := 0 ≤ w 0 ∧ w 0 < N ∧ 124 ≤ w 1 ∧ w 1 ≤ 127 ∧ (w 2 = 0 ∨ w 2 = 1) ∧ ((i : Int) < k3 → w 3 = -1) ∧ (k3 ≤ i → mex cb ν a (w 3))
def mp6 (N : Nat) (_ : Nat) (w : Nat → Int) : Prop := 0 ≤ w 0 ∧ w 0 < N ∧ 0 ≤ w 1 ∧ w 1 ≤ 3 ∧ 0 ≤ w 2 ∧ w 2 < 4294967296 ∧ 0 ≤ w 3 ∧ 0 ≤ w 4 ∧ w 3 + w 4 ≤ N
def mp7 (N : Nat) (cb ν : Nat → Int32) (a n8 : Nat) (_ : Nat) (w : Nat → Int) : Prop := 0 ≤ w 0 ∧ w 0 < N ∧ 0 ≤ w 1 ∧ w 1 < 4294967296 ∧ mex cb ν a (w 2) ∧ 0 ≤ w 3 ∧ 0 ≤ w 4 ∧ 2 * (w 3 + w 4) ≤ n8
def mp9 (cb ν : Nat → Int32) (a n10 : Nat) (v : Nat → Int64) (_ : Nat) (w : Nat → Int) : Prop := mex cb ν a (w 0) ∧ 0 ≤ w 1 ∧ w 1 ≤ 1000 ∧ 0 ≤ w 2 ∧ 0 ≤ w 3 ∧ 2 * (w 2 + w 3) ≤ n10 ∧ gsum v (w 2).toNat (w 3).toNat = w 1
def mp10 (_ : Nat) (w : Nat → Int) : Prop := 0 ≤ w 0 ∧ w 0 ≤ 1000 ∧ 124 ≤ w 1 ∧ w 1 ≤ 127
def mp11 (N : Nat) (cb ν : Nat → Int32) (a : Nat) (_ : Nat) (w : Nat → Int) : Prop := 0 ≤ w 0 ∧ w 0 < N ∧ 0 ≤ w 1 ∧ w 1 < 4294967296 ∧ mex cb ν a (w 2) ∧ 0 ≤ w 3 ∧ 0 ≤ w 4 ∧ w 3 + w 4 ≤ N
theorem mp0_c {N : Nat} {cb : Nat → Int32} (i : Nat) (w w' : Nat → Int) (h : ∀ j, j < 5 → w j = w' j) (hP : mp0 N cb i w) : mp0 N cb i w' := by
  unfold mp0 at *
  simp only [h 0 (by omega), h 1 (by omega), h 2 (by omega), h 3 (by omega), h 4 (by omega)] at hP
  exact hP
theorem mp1_c {N : Nat} {v : Nat → Int64} (i : Nat) (w w' : Nat → Int) (h : ∀ j, j < 7 → w j = w' j) (hP : mp1 N v i w) : mp1 N v i w' := by
  unfold mp1 at *
  simp only [h 0 (by omega), h 1 (by omega), h 2 (by omega), h 3 (by omega), h 4 (by omega), h 5 (by omega), h 6 (by omega)] at hP
  exact hP
theorem mp2_c {N : Nat} (i : Nat) (w w' : Nat → Int) (h : ∀ j, j < 2 → w j = w' j) (hP : mp2 N i w) : mp2 N i w' := by
  unfold mp2 at *
  simp only [h 0 (by omega), h 1 (by omega)] at hP
  exact hP
theorem mp3_c {N : Nat} (i : Nat) (w w' : Nat → Int) (h : ∀ j, j < 3 → w j = w' j) (hP : mp3 N i w) : mp3 N i w' := by
  unfold mp3 at *
  simp only [h 0 (by omega), h 1 (by omega), h 2 (by omega)] at hP
  exact hP
theorem mp5_c {N : Nat} {cb : Nat → Int32} {ν : Nat → Int32} {a : Nat} {k3 : Int} (i : Nat) (w w' : Nat → Int) (h : ∀ j, j < 4 → w j = w' j) (hP : mp5 N cb ν a k3 i w) : mp5 N cb ν a k3 i w' := by
  unfold mp5 at *
  simp only [h 0 (by omega), h 1 (by omega), h 2 (by omega), h 3 (by omega)] at hP
  exact hP
theorem mp6_c {N : Nat} (i : Nat) (w w' : Nat → Int) (h : ∀ j, j < 5 → w j = w' j) (hP : mp6 N i w) : mp6 N i w' := by
  unfold mp6 at *
  simp only [h 0 (by omega), h 1 (by omega), h 2 (by omega), h 3 (by omega), h 4 (by omega)] at hP
  exact hP
theorem mp7_c {N : Nat} {cb : Nat → Int32} {ν : Nat → Int32} {a : Nat} {n8 : Nat} (i : Nat) (w w' : Nat → Int) (h : ∀ j, j < 5 → w j = w' j) (hP : mp7 N cb ν a n8 i w) : mp7 N cb ν a n8 i w' := by
  unfold mp7 at *
  simp only [h 0 (by omega), h 1 (by omega), h 2 (by omega), h 3 (by omega), h 4 (by omega)] at hP
  exact hP
theorem mp9_c {cb : Nat → Int32} {ν : Nat → Int32} {a : Nat} {n10 : Nat} {v : Nat → Int64} (i : Nat) (w w' : Nat → Int) (h : ∀ j, j < 5 → w j = w' j) (hP : mp9 cb ν a n10 v i w) : mp9 cb ν a n10 v i w' := by
  unfold mp9 at *
  simp only [h 0 (by omega), h 1 (by omega), h 2 (by omega), h 3 (by omega), h 4 (by omega)] at hP
  exact hP
theorem mp10_c (i : Nat) (w w' : Nat → Int) (h : ∀ j, j < 2 → w j = w' j) (hP : mp10  i w) : mp10  i w' := by
  unfold mp10 at *
  simp only [h 0 (by omega), h 1 (by omega)] at hP
  exact hP
theorem mp11_c {N : Nat} {cb : Nat → Int32} {ν : Nat → Int32} {a : Nat} (i : Nat) (w w' : Nat → Int) (h : ∀ j, j < 5 → w j = w' j) (hP : mp11 N cb ν a i w) : mp11 N cb ν a i w' := by
  unfold mp11 at *
  simp only [h 0 (by omega), h 1 (by omega), h 2 (by omega), h 3 (by omega), h 4 (by omega)] at hP
  exact hP
theorem xr_L.mono2 {c : Nat} {P P' : Nat → (Nat → Int) → Prop} {n : Nat} {v : Nat → Int64} (hc : 0 < c) (hL : xr_L c P n v) (hP : ∀ i w, c * i < n → P i w → P' i w) : xr_L c P' n v := by
  obtain ⟨m, h1, h2⟩ := hL
  refine ⟨m, h1, fun i hi => hP i _ ?_ (h2 i hi)⟩
  rw [h1]
  exact Nat.mul_lt_mul_of_pos_left hi hc
/-- all that holds of a module whose reading has come to a -/
def md_I (N : Nat) (cb : Nat → Int32) (n : Nat → Nat) (vs : Nat → Nat → Int64) (ν iv : Nat → Int32) (a : Nat) : Prop :=
  xr_L 5 (mp0 N cb) (n 0) (vs 0) ∧ xr_L 7 (mp1 N (vs 1)) (n 1) (vs 1) ∧ xr_L 2 (mp2 N) (n 2) (vs 2) ∧ xr_L 3 (mp3 N) (n 3) (vs 3) ∧ xr_L 3 (mp3 N) (n 4) (vs 4) ∧ xr_L 4 (mp5 N cb ν a (iv 3).toInt) (n 5) (vs 5) ∧ xr_L 5 (mp6 N) (n 6) (vs 6) ∧ xr_L 5 (mp7 N cb ν a (n 8)) (n 7) (vs 7) ∧ xr_L 2 (mp2 N) (n 8) (vs 8) ∧ xr_L 5 (mp9 cb ν a (n 10) (vs 10)) (n 9) (vs 9) ∧ xr_L 2 mp10 (n 10) (vs 10) ∧ xr_L 5 (mp11 N cb ν a) (n 11) (vs 11) ∧
  (∀ κ, κ < 4 → (iv κ).toInt = mcnt (vs 1) κ (n 1 / 7)) ∧ (∀ k, k < 12 → n k ≤ 2 * a) ∧ (∀ j, a ≤ j → ν j = 0) ∧ 8 ≤ a
section MDI
variable {N : Nat} {cb : Nat → Int32} {n n' : Nat → Nat} {vs vs' : Nat → Nat → Int64} {ν ν' iv : Nat → Int32} {a a' : Nat}
theorem md_I.ex (hI : md_I N cb n vs ν iv a) (ha : a ≤ a') (hν : ∀ j, j < a → ν' j = ν j) (hz : ∀ j, a' ≤ j → ν' j = 0) : md_I N cb n vs ν' iv a' := by
  obtain ⟨c0, c1, c2, c3, c4, c5, c6, c7, c8, c9, c10, c11, e1, e3, e4, e5⟩ := hI
  refine ⟨c0, c1, c2, c3, c4, c5.mono rfl (fun i w h => ?_), c6, c7.mono rfl (fun i w h => ?_), c8, c9.mono rfl (fun i w h => ?_), c10, c11.mono rfl (fun i w h => ?_), e1, fun k hk => by have := e3 k hk; omega, hz, by omega⟩
  · obtain ⟨a1, a2, a3, a4, a5, a6, a7⟩ := h
    exact ⟨a1, a2, a3, a4, a5, a6, fun h9 => (a7 h9).mono ha hν⟩
  · obtain ⟨a1, a2, a3, a4, a5, a6⟩ := h
    exact ⟨a1, a2, a3, a4, a5.mono ha hν, a6⟩
  · obtain ⟨a1, a2⟩ := h
    exact ⟨a1.mono ha hν, a2⟩
  · obtain ⟨a1, a2, a3, a4, a5, a6⟩ := h
    exact ⟨a1, a2, a3, a4, a5.mono ha hν, a6⟩
theorem md_I.at (hI : md_I N cb n vs ν iv a) (ha : a ≤ a') : md_I N cb n vs ν iv a' := hI.ex ha (fun _ _ => rfl) (fun j hj => hI.2.2.2.2.2.2.2.2.2.2.2.2.2.2.1 j (by omega))
theorem md_I.a0 {L : List Int64} (hI : md_I N cb n vs ν iv a) (hA : xr_A 0 n vs n' vs' L) (hL : L.length = 5) (hb : n 0 + 5 ≤ 2 * a) (hp : mp0 N cb (n 0 / 5) (fun j => (L.getD j 0).toInt)) : md_I N cb n' vs' ν iv a := by
  obtain ⟨c0, c1, c2, c3, c4, c5, c6, c7, c8, c9, c10, c11, e1, e3, e4, e5⟩ := hI
  refine ⟨xr_L.app (by omega) c0 hA hL mp0_c hp, by rw [(hA.2.1 1 (by omega)).1, (hA.2.1 1 (by omega)).2]; exact c1, by rw [(hA.2.1 2 (by omega)).1, (hA.2.1 2 (by omega)).2]; exact c2, by rw [(hA.2.1 3 (by omega)).1, (hA.2.1 3 (by omega)).2]; exact c3, by rw [(hA.2.1 4 (by omega)).1, (hA.2.1 4 (by omega)).2]; exact c4, by rw [(hA.2.1 5 (by omega)).1, (hA.2.1 5 (by omega)).2]; exact c5, by rw [(hA.2.1 6 (by omega)).1, (hA.2.1 6 (by omega)).2]; exact c6, by rw [(hA.2.1 7 (by omega)).1, (hA.2.1 7 (by omega)).2, (hA.2.1 8 (by omega)).1]; exact c7, by rw [(hA.2.1 8 (by omega)).1, (hA.2.1 8 (by omega)).2]; exact c8, by rw [(hA.2.1 9 (by omega)).1, (hA.2.1 9 (by omega)).2, (hA.2.1 10 (by omega)).1, (hA.2.1 10 (by omega)).2]; exact c9, by rw [(hA.2.1 10 (by omega)).1, (hA.2.1 10 (by omega)).2]; exact c10, by rw [(hA.2.1 11 (by omega)).1, (hA.2.1 11 (by omega)).2]; exact c11, by rw [(hA.2.1 1 (by omega)).1, (hA.2.1 1 (by omega)).2]; exact e1, fun j hj => ?_, e4, e5⟩
  · by_cases e : j = 0
    · rw [e, hA.1, hL]
      exact hb
    · rw [(hA.2.1 j e).1]
      exact e3 j hj
theorem md_I.a2 {L : List Int64} (hI : md_I N cb n vs ν iv a) (hA : xr_A 2 n vs n' vs' L) (hL : L.length = 2) (hb : n 2 + 2 ≤ 2 * a) (hp : mp2 N (n 2 / 2) (fun j => (L.getD j 0).toInt)) : md_I N cb n' vs' ν iv a := by
  obtain ⟨c0, c1, c2, c3, c4, c5, c6, c7, c8, c9, c10, c11, e1, e3, e4, e5⟩ := hI
  refine ⟨by rw [(hA.2.1 0 (by omega)).1, (hA.2.1 0 (by omega)).2]; exact c0, by rw [(hA.2.1 1 (by omega)).1, (hA.2.1 1 (by omega)).2]; exact c1, xr_L.app (by omega) c2 hA hL mp2_c hp, by rw [(hA.2.1 3 (by omega)).1, (hA.2.1 3 (by omega)).2]; exact c3, by rw [(hA.2.1 4 (by omega)).1, (hA.2.1 4 (by omega)).2]; exact c4, by rw [(hA.2.1 5 (by omega)).1, (hA.2.1 5 (by omega)).2]; exact c5, by rw [(hA.2.1 6 (by omega)).1, (hA.2.1 6 (by omega)).2]; exact c6, by rw [(hA.2.1 7 (by omega)).1, (hA.2.1 7 (by omega)).2, (hA.2.1 8 (by omega)).1]; exact c7, by rw [(hA.2.1 8 (by omega)).1, (hA.2.1 8 (by omega)).2]; exact c8, by rw [(hA.2.1 9 (by omega)).1, (hA.2.1 9 (by omega)).2, (hA.2.1 10 (by omega)).1, (hA.2.1 10 (by omega)).2]; exact c9, by rw [(hA.2.1 10 (by omega)).1, (hA.2.1 10 (by omega)).2]; exact c10, by rw [(hA.2.1 11 (by omega)).1, (hA.2.1 11 (by omega)).2]; exact c11, by rw [(hA.2.1 1 (by omega)).1, (hA.2.1 1 (by omega)).2]; exact e1, fun j hj => ?_, e4, e5⟩
  · by_cases e : j = 2
    · rw [e, hA.1, hL]
      exact hb
    · rw [(hA.2.1 j e).1]
      exact e3 j hj
theorem md_I.a3 {L : List Int64} (hI : md_I N cb n vs ν iv a) (hA : xr_A 3 n vs n' vs' L) (hL : L.length = 3) (hb : n 3 + 3 ≤ 2 * a) (hp : mp3 N (n 3 / 3) (fun j => (L.getD j 0).toInt)) : md_I N cb n' vs' ν iv a := by
  obtain ⟨c0, c1, c2, c3, c4, c5, c6, c7, c8, c9, c10, c11, e1, e3, e4, e5⟩ := hI
  refine ⟨by rw [(hA.2.1 0 (by omega)).1, (hA.2.1 0 (by omega)).2]; exact c0, by rw [(hA.2.1 1 (by omega)).1, (hA.2.1 1 (by omega)).2]; exact c1, by rw [(hA.2.1 2 (by omega)).1, (hA.2.1 2 (by omega)).2]; exact c2, xr_L.app (by omega) c3 hA hL mp3_c hp, by rw [(hA.2.1 4 (by omega)).1, (hA.2.1 4 (by omega)).2]; exact c4, by rw [(hA.2.1 5 (by omega)).1, (hA.2.1 5 (by omega)).2]; exact c5, by rw [(hA.2.1 6 (by omega)).1, (hA.2.1 6 (by omega)).2]; exact c6, by rw [(hA.2.1 7 (by omega)).1, (hA.2.1 7 (by omega)).2, (hA.2.1 8 (by omega)).1]; exact c7, by rw [(hA.2.1 8 (by omega)).1, (hA.2.1 8 (by omega)).2]; exact c8, by rw [(hA.2.1 9 (by omega)).1, (hA.2.1 9 (by omega)).2, (hA.2.1 10 (by omega)).1, (hA.2.1 10 (by omega)).2]; exact c9, by rw [(hA.2.1 10 (by omega)).1, (hA.2.1 10 (by omega)).2]; exact c10, by rw [(hA.2.1 11 (by omega)).1, (hA.2.1 11 (by omega)).2]; exact c11, by rw [(hA.2.1 1 (by omega)).1, (hA.2.1 1 (by omega)).2]; exact e1, fun j hj => ?_, e4, e5⟩
  · by_cases e : j = 3
    · rw [e, hA.1, hL]
      exact hb
    · rw [(hA.2.1 j e).1]
      exact e3 j hj
theorem md_I.a4 {L : List Int64} (hI : md_I N cb n vs ν iv a) (hA : xr_A 4 n vs n' vs' L) (hL : L.length = 3) (hb : n 4 + 3 ≤ 2 * a) (hp : mp3 N (n 4 / 3) (fun j => (L.getD j 0).toInt)) : md_I N cb n' vs' ν iv a := by
  obtain ⟨c0, c1, c2, c3, c4, c5, c6, c7, c8, c9, c10, c11, e1, e3, e4, e5⟩ := hI
  refine ⟨by rw [(hA.2.1 0 (by omega)).1, (hA.2.1 0 (by omega)).2]; exact c0, by rw [(hA.2.1 1 (by omega)).1, (hA.2.1 1 (by omega)).2]; exact c1, by rw [(hA.2.1 2 (by omega)).1, (hA.2.1 2 (by omega)).2]; exact c2, by rw [(hA.2.1 3 (by omega)).1, (hA.2.1 3 (by omega)).2]; exact c3, xr_L.app (by omega) c4 hA hL mp3_c hp, by rw [(hA.2.1 5 (by omega)).1, (hA.2.1 5 (by omega)).2]; exact c5, by rw [(hA.2.1 6 (by omega)).1, (hA.2.1 6 (by omega)).2]; exact c6, by rw [(hA.2.1 7 (by omega)).1, (hA.2.1 7 (by omega)).2, (hA.2.1 8 (by omega)).1]; exact c7, by rw [(hA.2.1 8 (by omega)).1, (hA.2.1 8 (by omega)).2]; exact c8, by rw [(hA.2.1 9 (by omega)).1, (hA.2.1 9 (by omega)).2, (hA.2.1 10 (by omega)).1, (hA.2.1 10 (by omega)).2]; exact c9, by rw [(hA.2.1 10 (by omega)).1, (hA.2.1 10 (by omega)).2]; exact c10, by rw [(hA.2.1 11 (by omega)).1, (hA.2.1 11 (by omega)).2]; exact c11, by rw [(hA.2.1 1 (by omega)).1, (hA.2.1 1 (by omega)).2]; exact e1, fun j hj => ?_, e4, e5⟩
  · by_cases e : j = 4
    · rw [e, hA.1, hL]
      exact hb
    · rw [(hA.2.1 j e).1]
      exact e3 j hj
theorem md_I.a5 {L : List Int64} (hI : md_I N cb n vs ν iv a) (hA : xr_A 5 n vs n' vs' L) (hL : L.length = 4) (hb : n 5 + 4 ≤ 2 * a) (hp : mp5 N cb ν a (iv 3).toInt (n 5 / 4) (fun j => (L.getD j 0).toInt)) : md_I N cb n' vs' ν iv a := by
  obtain ⟨c0, c1, c2, c3, c4, c5, c6, c7, c8, c9, c10, c11, e1, e3, e4, e5⟩ := hI
  refine ⟨by rw [(hA.2.1 0 (by omega)).1, (hA.2.1 0 (by omega)).2]; exact c0, by rw [(hA.2.1 1 (by omega)).1, (hA.2.1 1 (by omega)).2]; exact c1, by rw [(hA.2.1 2 (by omega)).1, (hA.2.1 2 (by omega)).2]; exact c2, by rw [(hA.2.1 3 (by omega)).1, (hA.2.1 3 (by omega)).2]; exact c3, by rw [(hA.2.1 4 (by omega)).1, (hA.2.1 4 (by omega)).2]; exact c4, xr_L.app (by omega) c5 hA hL mp5_c hp, by rw [(hA.2.1 6 (by omega)).1, (hA.2.1 6 (by omega)).2]; exact c6, by rw [(hA.2.1 7 (by omega)).1, (hA.2.1 7 (by omega)).2, (hA.2.1 8 (by omega)).1]; exact c7, by rw [(hA.2.1 8 (by omega)).1, (hA.2.1 8 (by omega)).2]; exact c8, by rw [(hA.2.1 9 (by omega)).1, (hA.2.1 9 (by omega)).2, (hA.2.1 10 (by omega)).1, (hA.2.1 10 (by omega)).2]; exact c9, by rw [(hA.2.1 10 (by omega)).1, (hA.2.1 10 (by omega)).2]; exact c10, by rw [(hA.2.1 11 (by omega)).1, (hA.2.1 11 (by omega)).2]; exact c11, by rw [(hA.2.1 1 (by omega)).1, (hA.2.1 1 (by omega)).2]; exact e1, fun j hj => ?_, e4, e5⟩
  · by_cases e : j = 5
    · rw [e, hA.1, hL]
      exact hb
    · rw [(hA.2.1 j e).1]
      exact e3 j hj
theorem md_I.a6 {L : List Int64} (hI : md_I N cb n vs ν iv a) (hA : xr_A 6 n vs n' vs' L) (hL : L.length = 5) (hb : n 6 + 5 ≤ 2 * a) (hp : mp6 N (n 6 / 5) (fun j => (L.getD j 0).toInt)) : md_I N cb n' vs' ν iv a := by
  obtain ⟨c0, c1, c2, c3, c4, c5, c6, c7, c8, c9, c10, c11, e1, e3, e4, e5⟩ := hI
  refine ⟨by rw [(hA.2.1 0 (by omega)).1, (hA.2.1 0 (by omega)).2]; exact c0, by rw [(hA.2.1 1 (by omega)).1, (hA.2.1 1 (by omega)).2]; exact c1, by rw [(hA.2.1 2 (by omega)).1, (hA.2.1 2 (by omega)).2]; exact c2, by rw [(hA.2.1 3 (by omega)).1, (hA.2.1 3 (by omega)).2]; exact c3, by rw [(hA.2.1 4 (by omega)).1, (hA.2.1 4 (by omega)).2]; exact c4, by rw [(hA.2.1 5 (by omega)).1, (hA.2.1 5 (by omega)).2]; exact c5, xr_L.app (by omega) c6 hA hL mp6_c hp, by rw [(hA.2.1 7 (by omega)).1, (hA.2.1 7 (by omega)).2, (hA.2.1 8 (by omega)).1]; exact c7, by rw [(hA.2.1 8 (by omega)).1, (hA.2.1 8 (by omega)).2]; exact c8, by rw [(hA.2.1 9 (by omega)).1, (hA.2.1 9 (by omega)).2, (hA.2.1 10 (by omega)).1, (hA.2.1 10 (by omega)).2]; exact c9, by rw [(hA.2.1 10 (by omega)).1, (hA.2.1 10 (by omega)).2]; exact c10, by rw [(hA.2.1 11 (by omega)).1, (hA.2.1 11 (by omega)).2]; exact c11, by rw [(hA.2.1 1 (by omega)).1, (hA.2.1 1 (by omega)).2]; exact e1, fun j hj => ?_, e4, e5⟩
  · by_cases e : j = 6
    · rw [e, hA.1, hL]
      exact hb
    · rw [(hA.2.1 j e).1]
      exact e3 j hj
theorem md_I.a7 {L : List Int64} (hI : md_I N cb n vs ν iv a) (hA : xr_A 7 n vs n' vs' L) (hL : L.length = 5) (hb : n 7 + 5 ≤ 2 * a) (hp : mp7 N cb ν a (n 8) (n 7 / 5) (fun j => (L.getD j 0).toInt)) : md_I N cb n' vs' ν iv a := by
  obtain ⟨c0, c1, c2, c3, c4, c5, c6, c7, c8, c9, c10, c11, e1, e3, e4, e5⟩ := hI
  refine ⟨by rw [(hA.2.1 0 (by omega)).1, (hA.2.1 0 (by omega)).2]; exact c0, by rw [(hA.2.1 1 (by omega)).1, (hA.2.1 1 (by omega)).2]; exact c1, by rw [(hA.2.1 2 (by omega)).1, (hA.2.1 2 (by omega)).2]; exact c2, by rw [(hA.2.1 3 (by omega)).1, (hA.2.1 3 (by omega)).2]; exact c3, by rw [(hA.2.1 4 (by omega)).1, (hA.2.1 4 (by omega)).2]; exact c4, by rw [(hA.2.1 5 (by omega)).1, (hA.2.1 5 (by omega)).2]; exact c5, by rw [(hA.2.1 6 (by omega)).1, (hA.2.1 6 (by omega)).2]; exact c6, by rw [(hA.2.1 8 (by omega)).1]; exact xr_L.app (by omega) c7 hA hL mp7_c hp, by rw [(hA.2.1 8 (by omega)).1, (hA.2.1 8 (by omega)).2]; exact c8, by rw [(hA.2.1 9 (by omega)).1, (hA.2.1 9 (by omega)).2, (hA.2.1 10 (by omega)).1, (hA.2.1 10 (by omega)).2]; exact c9, by rw [(hA.2.1 10 (by omega)).1, (hA.2.1 10 (by omega)).2]; exact c10, by rw [(hA.2.1 11 (by omega)).1, (hA.2.1 11 (by omega)).2]; exact c11, by rw [(hA.2.1 1 (by omega)).1, (hA.2.1 1 (by omega)).2]; exact e1, fun j hj => ?_, e4, e5⟩
  · by_cases e : j = 7
    · rw [e, hA.1, hL]
      exact hb
    · rw [(hA.2.1 j e).1]
      exact e3 j hj
theorem md_I.a8 {L : List Int64} (hI : md_I N cb n vs ν iv a) (hA : xr_A 8 n vs n' vs' L) (hL : L.length = 2) (hb : n 8 + 2 ≤ 2 * a) (hp : mp2 N (n 8 / 2) (fun j => (L.getD j 0).toInt)) : md_I N cb n' vs' ν iv a := by
  obtain ⟨c0, c1, c2, c3, c4, c5, c6, c7, c8, c9, c10, c11, e1, e3, e4, e5⟩ := hI
  refine ⟨by rw [(hA.2.1 0 (by omega)).1, (hA.2.1 0 (by omega)).2]; exact c0, by rw [(hA.2.1 1 (by omega)).1, (hA.2.1 1 (by omega)).2]; exact c1, by rw [(hA.2.1 2 (by omega)).1, (hA.2.1 2 (by omega)).2]; exact c2, by rw [(hA.2.1 3 (by omega)).1, (hA.2.1 3 (by omega)).2]; exact c3, by rw [(hA.2.1 4 (by omega)).1, (hA.2.1 4 (by omega)).2]; exact c4, by rw [(hA.2.1 5 (by omega)).1, (hA.2.1 5 (by omega)).2]; exact c5, by rw [(hA.2.1 6 (by omega)).1, (hA.2.1 6 (by omega)).2]; exact c6, ?_, xr_L.app (by omega) c8 hA hL mp2_c hp, by rw [(hA.2.1 9 (by omega)).1, (hA.2.1 9 (by omega)).2, (hA.2.1 10 (by omega)).1, (hA.2.1 10 (by omega)).2]; exact c9, by rw [(hA.2.1 10 (by omega)).1, (hA.2.1 10 (by omega)).2]; exact c10, by rw [(hA.2.1 11 (by omega)).1, (hA.2.1 11 (by omega)).2]; exact c11, by rw [(hA.2.1 1 (by omega)).1, (hA.2.1 1 (by omega)).2]; exact e1, fun j hj => ?_, e4, e5⟩
  · rw [(hA.2.1 7 (by omega)).1, (hA.2.1 7 (by omega)).2]
    refine c7.mono rfl (fun i w h => ?_)
    obtain ⟨a1, a2, a3, a4, a5, a6, a7, a8⟩ := h
    exact ⟨a1, a2, a3, a4, a5, a6, a7, by rw [hA.1]; omega⟩
  · by_cases e : j = 8
    · rw [e, hA.1, hL]
      exact hb
    · rw [(hA.2.1 j e).1]
      exact e3 j hj
theorem md_I.a9 {L : List Int64} (hI : md_I N cb n vs ν iv a) (hA : xr_A 9 n vs n' vs' L) (hL : L.length = 5) (hb : n 9 + 5 ≤ 2 * a) (hp : mp9 cb ν a (n 10) (vs 10) (n 9 / 5) (fun j => (L.getD j 0).toInt)) : md_I N cb n' vs' ν iv a := by
  obtain ⟨c0, c1, c2, c3, c4, c5, c6, c7, c8, c9, c10, c11, e1, e3, e4, e5⟩ := hI
  refine ⟨by rw [(hA.2.1 0 (by omega)).1, (hA.2.1 0 (by omega)).2]; exact c0, by rw [(hA.2.1 1 (by omega)).1, (hA.2.1 1 (by omega)).2]; exact c1, by rw [(hA.2.1 2 (by omega)).1, (hA.2.1 2 (by omega)).2]; exact c2, by rw [(hA.2.1 3 (by omega)).1, (hA.2.1 3 (by omega)).2]; exact c3, by rw [(hA.2.1 4 (by omega)).1, (hA.2.1 4 (by omega)).2]; exact c4, by rw [(hA.2.1 5 (by omega)).1, (hA.2.1 5 (by omega)).2]; exact c5, by rw [(hA.2.1 6 (by omega)).1, (hA.2.1 6 (by omega)).2]; exact c6, by rw [(hA.2.1 7 (by omega)).1, (hA.2.1 7 (by omega)).2, (hA.2.1 8 (by omega)).1]; exact c7, by rw [(hA.2.1 8 (by omega)).1, (hA.2.1 8 (by omega)).2]; exact c8, by rw [(hA.2.1 10 (by omega)).1, (hA.2.1 10 (by omega)).2]; exact xr_L.app (by omega) c9 hA hL mp9_c hp, by rw [(hA.2.1 10 (by omega)).1, (hA.2.1 10 (by omega)).2]; exact c10, by rw [(hA.2.1 11 (by omega)).1, (hA.2.1 11 (by omega)).2]; exact c11, by rw [(hA.2.1 1 (by omega)).1, (hA.2.1 1 (by omega)).2]; exact e1, fun j hj => ?_, e4, e5⟩
  · by_cases e : j = 9
    · rw [e, hA.1, hL]
      exact hb
    · rw [(hA.2.1 j e).1]
      exact e3 j hj
theorem md_I.a10 {L : List Int64} (hI : md_I N cb n vs ν iv a) (hA : xr_A 10 n vs n' vs' L) (hL : L.length = 2) (hb : n 10 + 2 ≤ 2 * a) (hp : mp10 (n 10 / 2) (fun j => (L.getD j 0).toInt)) : md_I N cb n' vs' ν iv a := by
  obtain ⟨c0, c1, c2, c3, c4, c5, c6, c7, c8, c9, c10, c11, e1, e3, e4, e5⟩ := hI
  refine ⟨by rw [(hA.2.1 0 (by omega)).1, (hA.2.1 0 (by omega)).2]; exact c0, by rw [(hA.2.1 1 (by omega)).1, (hA.2.1 1 (by omega)).2]; exact c1, by rw [(hA.2.1 2 (by omega)).1, (hA.2.1 2 (by omega)).2]; exact c2, by rw [(hA.2.1 3 (by omega)).1, (hA.2.1 3 (by omega)).2]; exact c3, by rw [(hA.2.1 4 (by omega)).1, (hA.2.1 4 (by omega)).2]; exact c4, by rw [(hA.2.1 5 (by omega)).1, (hA.2.1 5 (by omega)).2]; exact c5, by rw [(hA.2.1 6 (by omega)).1, (hA.2.1 6 (by omega)).2]; exact c6, by rw [(hA.2.1 7 (by omega)).1, (hA.2.1 7 (by omega)).2, (hA.2.1 8 (by omega)).1]; exact c7, by rw [(hA.2.1 8 (by omega)).1, (hA.2.1 8 (by omega)).2]; exact c8, ?_, xr_L.app (by omega) c10 hA hL mp10_c hp, by rw [(hA.2.1 11 (by omega)).1, (hA.2.1 11 (by omega)).2]; exact c11, by rw [(hA.2.1 1 (by omega)).1, (hA.2.1 1 (by omega)).2]; exact e1, fun j hj => ?_, e4, e5⟩
  · rw [(hA.2.1 9 (by omega)).1, (hA.2.1 9 (by omega)).2]
    refine c9.mono rfl (fun i w h => ?_)
    obtain ⟨a1, a2, a3, a4, a5, a6, a7⟩ := h
    refine ⟨a1, a2, a3, a4, a5, by rw [hA.1]; omega, ?_⟩
    rw [gsum_congr _ (fun j hj => hA.2.2.1 j (by omega))]
    exact a7
  · by_cases e : j = 10
    · rw [e, hA.1, hL]
      exact hb
    · rw [(hA.2.1 j e).1]
      exact e3 j hj
theorem md_I.a11 {L : List Int64} (hI : md_I N cb n vs ν iv a) (hA : xr_A 11 n vs n' vs' L) (hL : L.length = 5) (hb : n 11 + 5 ≤ 2 * a) (hp : mp11 N cb ν a (n 11 / 5) (fun j => (L.getD j 0).toInt)) : md_I N cb n' vs' ν iv a := by
  obtain ⟨c0, c1, c2, c3, c4, c5, c6, c7, c8, c9, c10, c11, e1, e3, e4, e5⟩ := hI
  refine ⟨by rw [(hA.2.1 0 (by omega)).1, (hA.2.1 0 (by omega)).2]; exact c0, by rw [(hA.2.1 1 (by omega)).1, (hA.2.1 1 (by omega)).2]; exact c1, by rw [(hA.2.1 2 (by omega)).1, (hA.2.1 2 (by omega)).2]; exact c2, by rw [(hA.2.1 3 (by omega)).1, (hA.2.1 3 (by omega)).2]; exact c3, by rw [(hA.2.1 4 (by omega)).1, (hA.2.1 4 (by omega)).2]; exact c4, by rw [(hA.2.1 5 (by omega)).1, (hA.2.1 5 (by omega)).2]; exact c5, by rw [(hA.2.1 6 (by omega)).1, (hA.2.1 6 (by omega)).2]; exact c6, by rw [(hA.2.1 7 (by omega)).1, (hA.2.1 7 (by omega)).2, (hA.2.1 8 (by omega)).1]; exact c7, by rw [(hA.2.1 8 (by omega)).1, (hA.2.1 8 (by omega)).2]; exact c8, by rw [(hA.2.1 9 (by omega)).1, (hA.2.1 9 (by omega)).2, (hA.2.1 10 (by omega)).1, (hA.2.1 10 (by omega)).2]; exact c9, by rw [(hA.2.1 10 (by omega)).1, (hA.2.1 10 (by omega)).2]; exact c10, xr_L.app (by omega) c11 hA hL mp11_c hp, by rw [(hA.2.1 1 (by omega)).1, (hA.2.1 1 (by omega)).2]; exact e1, fun j hj => ?_, e4, e5⟩
  · by_cases e : j = 11
    · rw [e, hA.1, hL]
      exact hb
    · rw [(hA.2.1 j e).1]
      exact e3 j hj
/-- one import more: its line, and one more of its kind -/
theorem md_I.imp {L : List Int64} {iv' : Nat → Int32} {κ : Nat} (hI : md_I N cb n vs ν iv a) (hA : xr_A 1 n vs n' vs' L) (hL : L.length = 7) (hb : n 1 + 7 ≤ 2 * a) (h5 : (n 5 : Int) = 4 * (iv 3).toInt) (hκ : κ < 4)
    (h1 : (L.getD 1 0).toInt = κ) (hv : (iv' κ).toInt = (iv κ).toInt + 1) (hv' : ∀ j, j < 4 → j ≠ κ → iv' j = iv j) (hp : mp1 N (vs 1) (n 1 / 7) (fun j => (L.getD j 0).toInt)) : md_I N cb n' vs' ν iv' a := by
  obtain ⟨c0, c1, c2, c3, c4, c5, c6, c7, c8, c9, c10, c11, e1, e3, e4, e5⟩ := hI
  obtain ⟨m, hm, hm2⟩ := id c1
  have hdv : n 1 / 7 = m := by omega
  have hcg : ∀ (κ : Int) (i : Nat), i ≤ m → mcnt (vs' 1) κ i = mcnt (vs 1) κ i := fun κ i hi => mcnt_congr i (fun j hj => hA.2.2.1 j (by omega))
  have hc1 : xr_L 7 (mp1 N (vs' 1)) (n 1) (vs 1) := c1.mono2 (by omega) (fun i w hi h => by
    obtain ⟨a1, a2, a3, a4, a5, a6⟩ := h
    exact ⟨a1, a2, a3, a4, by rw [hcg _ i (by omega)]; exact a5, a6⟩)
  refine ⟨by rw [(hA.2.1 0 (by omega)).1, (hA.2.1 0 (by omega)).2]; exact c0, xr_L.app (by omega) hc1 hA hL mp1_c ?_, by rw [(hA.2.1 2 (by omega)).1, (hA.2.1 2 (by omega)).2]; exact c2, by rw [(hA.2.1 3 (by omega)).1, (hA.2.1 3 (by omega)).2]; exact c3, by rw [(hA.2.1 4 (by omega)).1, (hA.2.1 4 (by omega)).2]; exact c4, ?_, by rw [(hA.2.1 6 (by omega)).1, (hA.2.1 6 (by omega)).2]; exact c6, by rw [(hA.2.1 7 (by omega)).1, (hA.2.1 7 (by omega)).2, (hA.2.1 8 (by omega)).1]; exact c7, by rw [(hA.2.1 8 (by omega)).1, (hA.2.1 8 (by omega)).2]; exact c8, by rw [(hA.2.1 9 (by omega)).1, (hA.2.1 9 (by omega)).2, (hA.2.1 10 (by omega)).1, (hA.2.1 10 (by omega)).2]; exact c9, by rw [(hA.2.1 10 (by omega)).1, (hA.2.1 10 (by omega)).2]; exact c10, by rw [(hA.2.1 11 (by omega)).1, (hA.2.1 11 (by omega)).2]; exact c11, fun j hj => ?_, fun j hj => ?_, e4, e5⟩
  · obtain ⟨a1, a2, a3, a4, a5, a6⟩ := hp
    exact ⟨a1, a2, a3, a4, by rw [hdv, hcg _ m (by omega)]; rw [hdv] at a5; exact a5, a6⟩
  · rw [(hA.2.1 5 (by omega)).1, (hA.2.1 5 (by omega)).2]
    refine c5.mono2 (by omega) (fun i w hi h => ?_)
    obtain ⟨a1, a2, a3, a4, a5, a6, a7⟩ := h
    have hi2 : (i : Int) < (iv 3).toInt := by omega
    refine ⟨a1, a2, a3, a4, a5, fun _ => a6 hi2, fun h9 => ?_⟩
    exfalso
    by_cases e : 3 = κ
    · subst e
      omega
    · rw [hv' 3 (by omega) e] at h9
      omega
  · have hd : n' 1 / 7 = m + 1 := by rw [hA.1, hL]; omega
    rw [hd]
    unfold mcnt
    have hk : vs' 1 (7 * m + 1) = L.getD 1 0 := by rw [← hA.2.2.2 1 (by omega), hm]
    rw [hcg _ m (by omega), hk, h1]
    have := e1 j hj
    rw [hdv] at this
    by_cases e : j = κ
    · subst e
      rw [if_pos rfl, hv, this]
      omega
    · rw [if_neg (by omega), hv' j hj e, this]
      omega
  · by_cases e : j = 1
    · rw [e, hA.1, hL]
      exact hb
    · rw [(hA.2.1 j e).1]
      exact e3 j hj
end MDI
