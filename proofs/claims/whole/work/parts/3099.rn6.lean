-- a run: room for values
def vP (n : Nat) : Nat := if n = 16384 then 0 else 81920 - 2 * n
/-- room for all rows and for the values -/
def bgv (ad : Nat → Nat) (h : xb_H) (rc rs bc bs : Nat) : Prop := bg ad h (rc + vP (xb_n h (ad 37)) / 8) (rs + vP (xb_n h (ad 37))) bc bs
section RN6
variable {own own' ad ad' : Nat → Nat} {h h' : xb_H} {W : wD} {σ D : Nat} {gx : Nat → fG}
theorem bg.sp2 {rc rs bc bs c s : Nat} (hg : bg ad h (rc + c) (rs + s) bc bs) (e : ∀ k, k < 41 → k ≠ 37 → ad' k = ad k ∧ xb_n h' (ad k) = xb_n h (ad k)) : c ≤ bc ∧ s ≤ bs ∧ bg ad' h' rc rs (bc - c) (bs - s) := by
  obtain ⟨g1, g2⟩ := hg
  have e0 : ∀ r ∈ rwl, rP h' ad' r = rP h ad r := fun r hr => by
    have h9 : ∀ r ∈ rwl, r + 1 < 41 ∧ r + 1 ≠ 37 := by decide
    obtain ⟨h1, h2⟩ := h9 r hr
    unfold rP
    rw [(e _ h1 h2).1, (e _ h1 h2).2]
  have e1 : s9 (rP h' ad') = s9 (rP h ad) := by
    unfold s9
    rw [e0 _ (by decide), e0 _ (by decide), e0 _ (by decide), e0 _ (by decide), e0 _ (by decide), e0 _ (by decide), e0 _ (by decide), e0 _ (by decide), e0 _ (by decide)]
  have e2 : s9 (fun r => rP h' ad' r / 8) = s9 (fun r => rP h ad r / 8) := by
    unfold s9
    dsimp only
    rw [e0 _ (by decide), e0 _ (by decide), e0 _ (by decide), e0 _ (by decide), e0 _ (by decide), e0 _ (by decide), e0 _ (by decide), e0 _ (by decide), e0 _ (by decide)]
  unfold bg
  rw [e1, e2]
  omega
theorem vP_up {n n' w : Nat} (h1 : n < w) (h2 : w ≤ 16384) (h3 : 64 ≤ n) (h4 : n' = min 16384 (max w (2 * n))) : n' + vP n' ≤ vP n ∧ 1 + vP n' / 8 ≤ vP n / 8 := by
  unfold vP
  have h5 : ¬ n = 16384 := by omega
  rw [if_neg h5]
  split <;> omega
theorem mc_makeRoom {w rc rs bc bs : Nat} {x : Int32} {Qr : xb_H → Nat → Nat → Prop} (hB : cB own ad h) (hS : mS ad h) (hx : x.toInt = w) (hw : w ≤ 16384) (hg : bgv ad h rc rs bc bs)
    (hQ : ∀ (h' : xb_H) (own' : Nat → Nat) (q bc' bs' : Nat), stp [15, 37] [] own ad own' (va_up ad 37 q) h h' → xb_i h' (ad 15) = xb_i h (ad 15) ∧ xb_l h' (ad 15) = xb_l h (ad 15) → (∀ k, k ≠ 9 → xb_r h' (ad 15) k = xb_r h (ad 15) k) → w ≤ xb_n h' q → xb_n h (ad 37) ≤ xb_n h' q → xb_n h' q ≤ 16384 → (∀ j, j < xb_n h (ad 37) → xb_l h' q j = xb_l h (ad 37) j) → bgv (va_up ad 37 q) h' rc rs bc' bs' → Qr h' bc' bs') : w_Machine_makeRoom (ad 15) x h bc bs Qr := by
  obtain ⟨S1, S2, S3, S4⟩ := hS
  have ha : va_up ad 37 (ad 37) = ad := by
    funext k
    rw [xh_up]
    split
    · rename_i e; rw [e]
    · rfl
  have hI := z_nI (n := xb_n h (ad 37)) (by omega)
  have r9 : xb_r h (ad 15) 9 = some (ad 37) := hB.r (15, 9, 37) (by decide)
  have k37 : xb_k h (ad 37) = 103 := hB.k 37 (by omega)
  unfold w_Machine_makeRoom w_Machine_makeRoom_L37
  refine ⟨hB.k 15 (by omega), ad 37, r9, k37, fun e => ?_, fun e => ⟨ad 37, r9, ad 37, r9, k37, ?_⟩⟩
  · rw [z_le, hx, hI] at e
    exact hQ h own (ad 37) bc bs (by rw [ha]; exact (stp.rf hB).mono (by decide) (fun k hk => hk)) ⟨rfl, rfl⟩ (fun _ _ => rfl) (by omega) (Nat.le_refl _) S4 (fun _ _ => rfl) (by rw [ha]; exact hg)
  · rw [z_le, hx, hI] at e
    have e2 : (2 * nI (xb_n h (ad 37))).toInt = (2 * xb_n h (ad 37) : Nat) := by
      rw [z_mul, hI, show (2 : Int32).toInt = 2 from rfl]
      omega
    obtain ⟨y, hy⟩ : ∃ y : Int32, y = (if (if x < 2 * nI (xb_n h (ad 37)) then 2 * nI (xb_n h (ad 37)) else x) < 16384 then (if x < 2 * nI (xb_n h (ad 37)) then 2 * nI (xb_n h (ad 37)) else x) else 16384) := ⟨_, rfl⟩
    rw [← hy]
    obtain ⟨n', hn'⟩ : ∃ n', n' = min 16384 (max w (2 * xb_n h (ad 37))) := ⟨_, rfl⟩
    have ey : y.toInt = n' := by
      have f1 : (if x < 2 * nI (xb_n h (ad 37)) then 2 * nI (xb_n h (ad 37)) else x).toInt = (max w (2 * xb_n h (ad 37)) : Nat) := by
        split
        · rename_i h9
          rw [z_lt, e2, hx] at h9
          rw [e2]
          omega
        · rename_i h9
          rw [z_lt, e2, hx] at h9
          rw [hx]
          omega
      generalize (if x < 2 * nI (xb_n h (ad 37)) then 2 * nI (xb_n h (ad 37)) else x) = m at f1 hy
      rw [hy]
      split
      · rename_i h9
        rw [z_lt, f1, show (16384 : Int32).toInt = 16384 from rfl] at h9
        rw [f1]
        omega
      · rename_i h9
        rw [z_lt, f1, show (16384 : Int32).toInt = 16384 from rfl] at h9
        rw [show (16384 : Int32).toInt = 16384 from rfl]
        omega
    obtain ⟨v1, v2⟩ := vP_up (n := xb_n h (ad 37)) (n' := n') (w := w) (by omega) hw S3 hn'
    have hg1 : bg ad h (rc + vP n' / 8 + 1) (rs + vP n' + n') bc bs := hg.le (by omega) (by omega)
    refine sp_copyOf1 k37 (by omega) (by omega) (by omega) ?_ ?_ (fun q zq f g1 g2 _ h10 e10 => ?_)
    · have := hg1.1; omega
    · have := hg1.2; omega
    rw [ey, Int.toNat_natCast] at e10 ⊢
    have nq : ∀ k, k < 41 → ad k ≠ q := fun k hk e9 => hB.z k hk (e9 ▸ zq)
    have ne : ad 15 ≠ ad 37 := hB.ne (by omega) (by omega) (by omega)
    have k10 : ∀ a, xb_k h10 a = if a = q then 103 else xb_k h a := fun a => by rw [e10, xh_kP, xh_kLa, xh_kN]
    have n10 : ∀ a, xb_n h10 a = if a = q then n' else xb_n h a := fun a => by rw [e10, xh_nP, xh_nLa, xh_nN]
    have i10 : ∀ a, a ≠ q → xb_i h10 a = xb_i h a := fun a h9 => by rw [e10, xh_iP, xh_iLa, xh_iN, if_neg h9]
    have l10 : ∀ a, a ≠ q → xb_l h10 a = xb_l h a := fun a h9 => by rw [e10, xh_lP, xh_lLa, if_neg h9, xh_lN, if_neg h9]
    have lq : xb_l h10 q = f := by rw [e10, xh_lP, xh_lLa, if_pos rfl]
    have r10 : ∀ a, a ≠ q → a ≠ ad 15 → xb_r h10 a = xb_r h a := fun a h9 h8 => by rw [e10, xh_rP, if_neg h8, xh_rLa, xh_rN, if_neg h9]
    have r15 : xb_r h10 (ad 15) = va_up (xb_r h (ad 15)) 9 (some q) := by rw [e10, xh_rP, if_pos rfl, xh_rLa, xh_rN, if_neg (nq 15 (by omega))]
    have ext : xb_ext h h10 := fun a h9 => by
      have hne : a ≠ q := fun e9 => h9 (e9 ▸ zq)
      rw [k10, n10, if_neg hne, if_neg hne]
      exact ⟨rfl, rfl⟩
    have hB' : cB (nown own q 39) (va_up ad 37 q) h10 := by
      refine ⟨fun k hk => ?_, fun e9 he => ?_⟩
      · rw [xh_up]
        split
        · rename_i e9
          rw [e9, nown_eq, k10, if_pos rfl]
          exact ⟨rfl, rfl⟩
        · rw [nown_ne (nq k hk), k10, if_neg (nq k hk)]
          exact hB.1 k hk
      · have h9 : ∀ e ∈ cRl, e.1 ≠ 37 ∧ (e.2.2 = 37 → e = (15, 9, 37)) ∧ (e.1 = 15 → e.2.1 = 9 → e = (15, 9, 37)) := by decide
        obtain ⟨x1, x2, x3⟩ := h9 e9 he
        obtain ⟨y1, y2⟩ := cRl_lt e9 he
        rw [xh_up, if_neg x1]
        by_cases h8 : e9 = (15, 9, 37)
        · rw [h8]
          show xb_r h10 (ad 15) 9 = some (va_up ad 37 q 37)
          rw [r15, xh_up, if_pos rfl, xh_up, if_pos rfl]
        · rw [xh_up, if_neg (fun e8 => h8 (x2 e8))]
          by_cases h7 : e9.1 = 15
          · rw [h7, r15, xh_up, if_neg (fun e8 => h8 (x3 h7 e8)), ← h7]
            exact hB.r e9 he
          · rw [r10 _ (nq _ y1) (hB.ne y1 (by omega) h7)]
            exact hB.r e9 he
    refine hQ h10 (nown own q 39) q (bc - 1) (bs - n') ⟨hB', fun k hk => ?_, fun a h9 => nown_ne (fun e9 => h9 (e9 ▸ zq)), ext, fun a h9 _ hc => ?_, fun k => ?_, fun k hk => ?_⟩ ⟨i10 _ (nq 15 (by omega)), l10 _ (nq 15 (by omega))⟩ (fun k hk => by rw [r15, xh_up, if_neg hk]) ?_ ?_ ?_ (fun j hj => ?_) ?_
    · rw [xh_up, if_neg (fun e9 => hk (by rw [e9]; decide))]
    · have hne : a ≠ q := fun e9 => h9 (e9 ▸ zq)
      exact ⟨i10 a hne, l10 a hne, r10 a hne (hc 15 (by decide))⟩
    · rw [xh_up]
      split
      · exact .inr zq
      · exact .inl rfl
    · rw [xh_up, if_neg (fun e9 => hk (by rw [e9]; decide))]
    · rw [n10, if_pos rfl]; omega
    · rw [n10, if_pos rfl]; omega
    · rw [n10, if_pos rfl]; omega
    · rw [lq]
      exact g1 j hj (by omega)
    · unfold bgv
      rw [xh_up, if_pos rfl, n10, if_pos rfl]
      exact (hg1.sp2 (ad' := va_up ad 37 q) (h' := h10) (fun k hk hne => ⟨by rw [xh_up, if_neg hne], by rw [n10, if_neg (nq k hk)]⟩)).2.2
end RN6
