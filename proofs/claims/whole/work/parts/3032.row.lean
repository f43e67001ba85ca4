-- Arrays.copyOf, Arrays.fill and the rows
theorem sp_copyOf1 {a bc bs : Nat} {x : Int32} {h : xb_H} {Qr : Nat → xb_H → Nat → Nat → Prop} (hk : xb_k h a = 103) (hx : 0 ≤ x.toInt) (hb : x.toInt ≤ 67108864) (hn : xb_n h a ≤ 67108864) (hc : 1 ≤ bc) (hs : x.toInt ≤ bs)
    (hQ : ∀ q, xb_k h q = 0 → ∀ f : Nat → Int64, (∀ j, j < xb_n h a → (j : Int) < x.toInt → f j = xb_l h a j) → (∀ j, xb_n h a ≤ j → (j : Int) < x.toInt → f j = 0) → Qr q (xb_La (xb_new h q 103 x.toInt.toNat) q f) (bc - 1) (bs - x.toInt.toNat)) : w_Arrays_copyOf1 a x h bc bs Qr := by
  unfold w_Arrays_copyOf1
  have hI := z_nI (n := xb_n h a) (by omega)
  refine ⟨hk, fun hne => ?_, fun he => ?_⟩
  · refine ⟨by simp only [z_lt, Int32.reduceToInt]; omega, by rw [z_cl]; omega, hc, by rw [z_cl]; omega, fun q hq h4 e4 => ?_⟩
    have hqa : a ≠ q := fun e => by rw [← e, hk] at hq; cases hq
    have e5 : xb_n h4 a = xb_n h a := by rw [e4, xh_nN, if_neg hqa]
    have e6 : xb_n h4 q = x.toInt.toNat := by rw [e4, xh_nN, if_pos rfl]; rfl
    rw [e5, e6]
    obtain ⟨y, hy⟩ : ∃ y : Int32, y = (if x < nI (xb_n h a) then x else nI (xb_n h a)) := ⟨_, rfl⟩
    rw [← hy]
    have e7 : (x.toInt < xb_n h a → y.toInt = x.toInt) ∧ (¬ x.toInt < xb_n h a → y.toInt = xb_n h a) := by
      constructor
      · intro h9
        rw [hy, if_pos (by rw [z_lt, hI]; exact h9)]
      · intro h9
        rw [hy, if_neg (by rw [z_lt, hI]; exact h9)]
        exact hI
    have z0 : (0 : Int32).toNatClampNeg = 0 := rfl
    have cy : y.toNatClampNeg = y.toInt.toNat := rfl
    refine ⟨⟨by decide, by decide, by rw [z_lt]; simp only [Int32.reduceToInt]; omega, by rw [z0, cy]; omega, by rw [z0, cy]; omega⟩, fun h7 e8 => ?_⟩
    rw [e8, e4, z0, cy]
    refine hQ q hq _ (fun j h1 h2 => ?_) (fun j h1 h2 => ?_)
    · rw [xh_lN, xh_lN, if_neg hqa, if_pos rfl]
      unfold va_cpy
      rw [if_pos (by omega)]
      simp
    · rw [xh_lN, xh_lN, if_neg hqa, if_pos rfl]
      unfold va_cpy
      rw [if_neg (by omega)]
  · refine ⟨hc, ?_, fun q hq h9 e9 => ?_⟩
    · simp only [z_eq, hI] at he
      omega
    · have e10 : xb_n h a = x.toInt.toNat := by
        simp only [z_eq, hI] at he
        omega
      rw [e9, e10]
      refine hQ q hq _ (fun j h1 h2 => rfl) (fun j h1 h2 => ?_)
      omega
theorem sp_copyOf0 {a bc bs : Nat} {x : Int32} {h : xb_H} {Qr : Nat → xb_H → Nat → Nat → Prop} (hk : xb_k h a = 100) (hx : 0 ≤ x.toInt) (hb : x.toInt ≤ 67108864) (hn : xb_n h a ≤ 67108864) (hc : 1 ≤ bc) (hs : x.toInt ≤ bs)
    (hQ : ∀ q, xb_k h q = 0 → ∀ f : Nat → Int32, (∀ j, j < xb_n h a → (j : Int) < x.toInt → f j = xb_i h a j) → (∀ j, xb_n h a ≤ j → (j : Int) < x.toInt → f j = 0) → Qr q (xb_Ia (xb_new h q 100 x.toInt.toNat) q f) (bc - 1) (bs - x.toInt.toNat)) : w_Arrays_copyOf0 a x h bc bs Qr := by
  unfold w_Arrays_copyOf0
  have hI := z_nI (n := xb_n h a) (by omega)
  refine ⟨hk, fun hne => ?_, fun he => ?_⟩
  · refine ⟨by simp only [z_lt, Int32.reduceToInt]; omega, by rw [z_cl]; omega, hc, by rw [z_cl]; omega, fun q hq h4 e4 => ?_⟩
    have hqa : a ≠ q := fun e => by rw [← e, hk] at hq; cases hq
    have e5 : xb_n h4 a = xb_n h a := by rw [e4, xh_nN, if_neg hqa]
    have e6 : xb_n h4 q = x.toInt.toNat := by rw [e4, xh_nN, if_pos rfl]; rfl
    rw [e5, e6]
    obtain ⟨y, hy⟩ : ∃ y : Int32, y = (if x < nI (xb_n h a) then x else nI (xb_n h a)) := ⟨_, rfl⟩
    rw [← hy]
    have e7 : (x.toInt < xb_n h a → y.toInt = x.toInt) ∧ (¬ x.toInt < xb_n h a → y.toInt = xb_n h a) := by
      constructor
      · intro h9
        rw [hy, if_pos (by rw [z_lt, hI]; exact h9)]
      · intro h9
        rw [hy, if_neg (by rw [z_lt, hI]; exact h9)]
        exact hI
    have z0 : (0 : Int32).toNatClampNeg = 0 := rfl
    have cy : y.toNatClampNeg = y.toInt.toNat := rfl
    refine ⟨⟨by decide, by decide, by rw [z_lt]; simp only [Int32.reduceToInt]; omega, by rw [z0, cy]; omega, by rw [z0, cy]; omega⟩, fun h7 e8 => ?_⟩
    rw [e8, e4, z0, cy]
    refine hQ q hq _ (fun j h1 h2 => ?_) (fun j h1 h2 => ?_)
    · rw [xh_iN, xh_iN, if_neg hqa, if_pos rfl]
      unfold va_cpy
      rw [if_pos (by omega)]
      simp
    · rw [xh_iN, xh_iN, if_neg hqa, if_pos rfl]
      unfold va_cpy
      rw [if_neg (by omega)]
  · refine ⟨hc, ?_, fun q hq h9 e9 => ?_⟩
    · simp only [z_eq, hI] at he
      omega
    · have e10 : xb_n h a = x.toInt.toNat := by
        simp only [z_eq, hI] at he
        omega
      rw [e9, e10]
      refine hQ q hq _ (fun j h1 h2 => rfl) (fun j h1 h2 => ?_)
      omega
theorem sp_fill1_L10 {Qr : xb_H → Prop} {a : Nat} {x2 : Int32} {x3 : Int64} : ∀ (m : Nat) (x5 : Int32) (h : xb_H), xb_k h a = 103 → 0 ≤ x5.toInt → x2.toInt - x5.toInt ≤ m → x2.toInt ≤ xb_n h a →
    (∀ f : Nat → Int64, (∀ j : Nat, x5.toInt ≤ j → (j : Int) < x2.toInt → f j = x3) → (∀ j : Nat, ((j : Int) < x5.toInt ∨ x2.toInt ≤ j) → f j = xb_l h a j) → Qr (xb_La h a f)) → w_Arrays_fill1_L10 Qr (m + 1) a x2 x3 x5 h
  | m, x5, h, hk, h0, hm, hl, hQ => by
    unfold w_Arrays_fill1_L10
    refine ⟨fun hc => ?_, fun hc => ?_⟩
    · rw [z_le] at hc
      have := hQ (xb_l h a) (fun j h1 h2 => by omega) (fun j _ => rfl)
      rw [show xb_La h a (xb_l h a) = h from ?_] at this
      · exact this
      · show (h.1, h.2.1, h.2.2.1, va_up h.2.2.2.1 a (h.2.2.2.1 a), h.2.2.2.2) = h
        rw [show va_up h.2.2.2.1 a (h.2.2.2.1 a) = h.2.2.2.1 from ?_]
        funext b
        rw [xh_up]
        split
        · rename_i e
          rw [e]
        · rfl
    · rw [z_le] at hc
      refine ⟨hk, by rw [z_in]; omega, fun h4 e4 => ?_⟩
      have r5 := z_rg x5
      have r2 := z_rg x2
      have e1 : (x5 + 1).toInt = x5.toInt + 1 := by
        rw [z_add]
        simp
        omega
      match m, hm with
      | 0, hm => omega
      | m + 1, hm =>
        refine sp_fill1_L10 m (x5 + 1) h4 (by rw [e4]; exact hk) (by omega) (by omega) (by rw [e4]; exact hl) (fun f h1 h2 => ?_)
        rw [e4, xh_LaL]
        have := hQ f (fun j h3 h5 => ?_) (fun j h3 => ?_)
        · exact this
        · by_cases hj : (j : Int) = x5.toInt
          · rw [h2 j (by omega), e4, xh_lL, if_pos rfl, xh_up, if_pos (by rw [z_cl]; omega)]
          · exact h1 j (by omega) h5
        · rw [h2 j (by omega), e4, xh_lL, if_pos rfl, xh_up, if_neg (by rw [z_cl]; omega)]
theorem sp_fill1 {Qr : xb_H → Prop} {a : Nat} {x1 x2 : Int32} {x3 : Int64} {h : xb_H} (hk : xb_k h a = 103) (h0 : 0 ≤ x1.toInt) (h1 : x1.toInt ≤ x2.toInt) (hl : x2.toInt ≤ xb_n h a) (hn : xb_n h a ≤ 67108864)
    (hQ : ∀ f : Nat → Int64, (∀ j : Nat, x1.toInt ≤ j → (j : Int) < x2.toInt → f j = x3) → (∀ j : Nat, ((j : Int) < x1.toInt ∨ x2.toInt ≤ j) → f j = xb_l h a j) → Qr (xb_La h a f)) : w_Arrays_fill1 a x1 x2 x3 h Qr := by
  unfold w_Arrays_fill1 w_Arrays_rangeCheck
  have hI := z_nI (n := xb_n h a) (by omega)
  simp only [z_le, hI]
  refine ⟨hk, fun _ => ⟨fun _ => ⟨fun _ _ => ⟨(x2.toInt - x1.toInt).toNat + 1, ?_⟩, fun hc => ?_⟩, fun hc => ?_⟩, fun hc => ?_⟩
  · exact sp_fill1_L10 _ x1 h hk h0 (by omega) hl hQ
  · omega
  · exact hc (by simpa using h0)
  · omega
/-- a row of so many columns, its size and where its items lie -/
def xr_row (h : xb_H) (r c n q : Nat) : Prop :=
  xb_k h r = 2 ∧ (xb_i h r 2).toInt = c ∧ (xb_i h r 1).toInt = n ∧ xb_r h r 0 = some q ∧ xb_k h q = 103 ∧ n ≤ xb_n h q ∧ 4 ≤ xb_n h q ∧ xb_n h q ≤ 8388608
theorem xr_row.ne {h : xb_H} {r c n q : Nat} (hr : xr_row h r c n q) : q ≠ r := fun e => by
  have h1 := hr.1
  have h2 := hr.2.2.2.2.1
  rw [e, h1] at h2
  cases h2
/-- what a row's growing costs -/
def xr_cost (w n : Nat) : Nat := if w ≤ n then 0 else max w (2 * n)
def xr_cell (w n : Nat) : Nat := if w ≤ n then 0 else 1
theorem sp_Row_makeRoom {r c n q w bc bs : Nat} {x : Int32} {h : xb_H} {Qr : xb_H → Nat → Nat → Prop} (hr : xr_row h r c n q) (hx : x.toInt = w) (hw : w ≤ 4194304) (hc : xr_cell w (xb_n h q) ≤ bc) (hs : xr_cost w (xb_n h q) ≤ bs)
    (hQ : ∀ (h' : xb_H) (q' : Nat), xr_row h' r c n q' → w ≤ xb_n h' q' → xb_n h' q' = max (xb_n h q) (xr_cost w (xb_n h q)) → (∀ j, j < xb_n h q → xb_l h' q' j = xb_l h q j) → (q' = q ∨ xb_k h q' = 0) → xb_i h' r = xb_i h r → (∀ a, xb_k h a ≠ 0 → a ≠ r → xh_sm h h' a) → xb_ext h h' → Qr h' (bc - xr_cell w (xb_n h q)) (bs - xr_cost w (xb_n h q))) : w_Row_makeRoom r x h bc bs Qr := by
  obtain ⟨k1, k2, k3, k4, k5, k6, k7, k8⟩ := id hr
  have hI := z_nI (n := xb_n h q) (by omega)
  unfold w_Row_makeRoom w_Row_makeRoom_L31
  unfold xr_cost at *
  unfold xr_cell at *
  refine ⟨k1, q, k4, k5, fun h1 => ?_, fun h1 => ?_⟩
  · rw [z_le, hx, hI] at h1
    rw [if_pos (by omega), if_pos (by omega)] at hQ
    exact hQ h q hr (by omega) (by omega) (fun j _ => rfl) (.inl rfl) rfl (fun a _ _ => xh_sm.rf h a) (xb_ext.rf h)
  · rw [z_le, hx, hI] at h1
    rw [if_neg (by omega)] at hc hs
    rw [if_neg (by omega), if_neg (by omega)] at hQ
    have e2 : (2 * nI (xb_n h q)).toInt = 2 * xb_n h q := by
      rw [z_mul, hI]
      simp
      omega
    have e3 : (if x < 2 * nI (xb_n h q) then 2 * nI (xb_n h q) else x).toInt = (max w (2 * xb_n h q) : Nat) := by
      simp only [z_lt, e2, hx]
      split
      · rw [e2]
        omega
      · rw [hx]
        omega
    refine ⟨q, k4, q, k4, k5, ?_⟩
    refine sp_copyOf1 k5 (by omega) (by omega) (by omega) hc (by omega) (fun q' hq' f hf _ hext h11 e11 => ?_)
    have hqr : r ≠ q' := fun e => by rw [← e, k1] at hq'; cases hq'
    rw [e3] at e11 hf ⊢
    rw [Int.toNat_natCast] at e11 ⊢
    have en : xb_n h11 q' = max w (2 * xb_n h q) := by
      rw [e11]
      simp only [xh_nP, xh_nLa, xh_nN, if_pos]
    refine hQ h11 q' ⟨?_, ?_, ?_, ?_, ?_, ?_, ?_, ?_⟩ ?_ ?_ (fun j hj => ?_) (.inr hq') ?_ (fun a ha har => ?_) ?_
    · rw [e11]
      simp only [xh_kP, xh_kLa, xh_kN, if_neg hqr]
      exact k1
    · rw [e11]
      simp only [xh_iP, xh_iLa, xh_iN, if_neg hqr]
      exact k2
    · rw [e11]
      simp only [xh_iP, xh_iLa, xh_iN, if_neg hqr]
      exact k3
    · rw [e11, xh_rP, if_pos rfl, xh_up, if_pos rfl]
    · rw [e11]
      simp only [xh_kP, xh_kLa, xh_kN, if_pos]
    · omega
    · omega
    · omega
    · omega
    · omega
    · rw [e11, xh_lP, xh_lLa, if_pos rfl]
      exact hf j hj (by omega)
    · rw [e11]
      simp only [xh_iP, xh_iLa, xh_iN, if_neg hqr]
    · have hqa : a ≠ q' := fun e => ha (e ▸ hq')
      rw [e11]
      exact ((xh_smN h _ _ hqa).tr (xh_smLa _ _ hqa)).tr (xh_smP _ _ _ har)
    · rw [e11]
      exact xh_exN h _ _ hq'
theorem sp_Row_add {r c n q bc bs : Nat} {x : Int64} {h : xb_H} {Qr : xb_H → Nat → Nat → Prop} (hr : xr_row h r c n q) (hw : n < 4194304) (hc : xr_cell (n + 1) (xb_n h q) ≤ bc) (hs : xr_cost (n + 1) (xb_n h q) ≤ bs)
    (hQ : ∀ (h' : xb_H) (q' : Nat), xr_row h' r c (n + 1) q' → xb_n h' q' = max (xb_n h q) (xr_cost (n + 1) (xb_n h q)) → (∀ j, j < n → xb_l h' q' j = xb_l h q j) → xb_l h' q' n = x → (q' = q ∨ xb_k h q' = 0) → (∀ a, xb_k h a ≠ 0 → a ≠ r → a ≠ q → xh_sm h h' a) → xb_ext h h' → Qr h' (bc - xr_cell (n + 1) (xb_n h q)) (bs - xr_cost (n + 1) (xb_n h q))) : w_Row_add r x h bc bs Qr := by
  obtain ⟨k1, k2, k3, k4, k5, k6, k7, k8⟩ := id hr
  unfold w_Row_add
  have e1 : (xb_i h r 1 + 1).toInt = (n + 1 : Nat) := by
    rw [z_add, k3]
    simp
    omega
  refine ⟨k1, ?_⟩
  refine sp_Row_makeRoom hr e1 (by omega) hc hs (fun h2 q' g1 g2 g3 g4 g5 g6 g7 g8 _ => ?_)
  obtain ⟨m1, m2, m3, m4, m5, m6, m7, m8⟩ := id g1
  refine ⟨q', m4, m5, by rw [z_in]; omega, fun h8 e8 h9 e9 => ?_⟩
  have hne := g1.ne
  have e3 : (xb_i h2 r 1).toNatClampNeg = n := by rw [z_cl, m3]; rfl
  rw [e3] at e8
  have e4 : xb_i h8 = xb_i h2 := by rw [e8]; rfl
  rw [e4] at e9
  have e5 : (xb_i h2 r 1 + 1).toInt = (n + 1 : Nat) := by rw [g6, e1]
  refine hQ h9 q' ⟨?_, ?_, ?_, ?_, ?_, ?_, ?_, ?_⟩ ?_ (fun j hj => ?_) ?_ g5 (fun a ha har haq => ?_) ?_
  · rw [e9, e8]; exact m1
  · rw [e9, xh_iI, if_pos rfl, xh_up, if_neg (by omega), e8]; exact m2
  · rw [e9, xh_iI, if_pos rfl, xh_up, if_pos rfl]; exact e5
  · rw [e9, e8]; exact m4
  · rw [e9, e8]; exact m5
  · rw [e9, e8]; exact g2
  · rw [e9, e8]; exact m7
  · rw [e9, e8]; exact m8
  · rw [e9, e8]; exact g3
  · rw [e9, xh_lI, e8, xh_lL, if_pos rfl, xh_up, if_neg (by omega)]
    exact g4 j (by omega)
  · rw [e9, xh_lI, e8, xh_lL, if_pos rfl, xh_up, if_pos rfl]
  · have haq' : a ≠ q' := by
      rcases g5 with e | e
      · rw [e]; exact haq
      · exact fun e' => ha (e' ▸ e)
    rw [e9, e8]
    exact ((g7 a ha har).tr (xh_smL _ _ _ haq')).tr (xh_smI _ _ _ har)
  · rw [e9, e8]
    exact g8
theorem sp_Row_lines {r c n q : Nat} {h : xb_H} {Qr : Int32 → xb_H → Prop} (hr : xr_row h r c n q) (hc : 0 < c) (hQ : ∀ v : Int32, v.toInt = (n / c : Nat) → Qr v h) : w_Row_lines r h Qr := by
  obtain ⟨k1, k2, k3, k4, k5, k6, k7, k8⟩ := id hr
  unfold w_Row_lines
  refine ⟨k1, ?_, hQ _ ?_⟩
  · rw [z_eq, k2]
    simp
    omega
  · rw [Int32.toInt_div_of_ne_left, k2, k3]
    · exact Int.ofNat_tdiv n c
    · intro e
      rw [e] at k3
      have : (Int32.minValue).toInt = -2147483648 := rfl
      omega
