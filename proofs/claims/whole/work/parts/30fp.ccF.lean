-- equality: a body, by what the class holds and by the bytes
def okL (k : Nat) (R : Except Nat cO) : Prop := ∀ s, R = .ok s → s.2.1.length = k
theorem okL_e {k c : Nat} : okL k (.error c) := fun s h => by cases h
theorem okL_o {k : Nat} {s : cO} (h : s.2.1.length = k) : okL k (.ok s) := fun s' e => by
  cases e
  exact h
theorem okL_b {α : Type} {k : Nat} {R : Except Nat α} {K : α → Except Nat cO} (h : ∀ a, okL k (K a)) : okL k (R.bind K) := fun s e => by
  cases R with
  | error c => cases e
  | ok a => exact h a s e
theorem okL_p {k : Nat} {c : List Int} {g x : Int} {fs : List s5} (h : fs.length = k) : okL k (.ok (ptC c g x fs)) := okL_o (by
  unfold ptC
  split <;> exact h)
theorem okL_i {k : Nat} {p : Prop} [Decidable p] {A B : Except Nat cO} (h1 : okL k A) (h2 : okL k B) : okL k (if p then A else B) := by
  split
  · exact h1
  · exact h2
/-- a place in the class becomes one in the store -/
def shZ (b : Nat) : Except (Nat × Nat) Int → Except (Nat × Nat) Int
  | .error (c, w) => .error (c, b + w)
  | .ok g => .ok g
section CCG
variable {b N : Nat} {cA cb ν ν0 lo lo' iv : Nat → Int32} {T : Sm} {n : Nat → Nat} {vs : Nat → Nat → Int64} {s sa : Int32} {D : zM} {t lcn q q' op pa P y nl : Nat} {cur : List Int} {f : s5} {r fs : List s5} {g rt : Int} {lt : Nat → Int}
theorem ckFl_len {bt : Int} {ls : Nat → Nat} : okL (if op = 2 ∨ op = 3 ∨ op = 4 then r.length + 2 else if op = 11 then r.length else r.length + 1) (ckFl f cur g r op y bt ls rt) := by
  by_cases h1 : op = 2 ∨ op = 3
  · rw [if_pos (by omega), ckFl_23 h1]
    exact okL_o rfl
  by_cases h2 : op = 4
  · rw [if_pos (by omega), ckFl_4 h2]
    exact okL_b (fun a => okL_o rfl)
  by_cases h3 : op = 11
  · rw [if_neg (by omega), if_pos h3, ckFl_11 h3]
    exact okL_b (fun a => okL_i okL_e (okL_p rfl))
  rw [if_neg (by omega), if_neg h3]
  unfold ckFl
  simp only [if_neg h1, if_neg h2, if_neg h3]
  refine okL_i (okL_o rfl) (okL_i (okL_o rfl) (okL_i (okL_b (fun _ => okL_o rfl)) (okL_i (okL_b (fun _ => okL_b (fun _ => okL_o rfl))) (okL_i (okL_b (fun _ => okL_b (fun _ => okL_b (fun _ => okL_p rfl)))) (okL_i (okL_b (fun _ => okL_b (fun _ => okL_b (fun _ => okL_o rfl)))) (okL_b (fun _ => okL_o rfl)))))))
theorem ckO_len : okL (if op = 2 ∨ op = 3 ∨ op = 4 then r.length + 2 else if op = 11 then r.length else r.length + 1) (ckO D lt nl rt q op cur f r g) := by
  by_cases h : op < 16
  · rw [ckO_f h]
    exact ckFl_len
  rw [if_neg (by omega), if_neg (by omega)]
  by_cases c1 : 69 ≤ op
  · rw [ckO_n c1]
    unfold ckN
    exact okL_i (okL_b (fun _ => okL_b (fun _ => okL_p rfl))) (okL_b (fun _ => okL_p rfl))
  by_cases c2 : 65 ≤ op
  · rw [ckO_k (by omega)]
    exact okL_p rfl
  by_cases c3 : 40 ≤ op
  · rw [ckO_m (by omega)]
    unfold ckMm ckMx ckAc
    exact okL_i (okL_i (okL_p rfl) (okL_i (okL_b (fun _ => okL_p rfl)) (okL_i (okL_i (okL_b (fun _ => okL_p rfl)) (okL_b (fun _ => okL_b (fun _ => okL_o rfl)))) okL_e))) okL_e
  by_cases c4 : 32 ≤ op
  · rw [ckO_p (by omega)]
    unfold ckPl ckLo ckVr
    refine okL_i (okL_i (okL_i (okL_p rfl) (okL_b (fun a => ?_))) okL_e) (okL_i (okL_i (okL_p rfl) (okL_i (okL_b (fun _ => okL_o rfl)) okL_e)) okL_e)
    by_cases h33 : op = 33
    · rw [if_pos h33]
      exact okL_o rfl
    · rw [if_neg h33]
      exact okL_p rfl
  · rw [ckO_c (by omega)]
    unfold ckCl ckTp
    exact okL_i (okL_i (okL_b (fun _ => okL_p rfl)) okL_e) (okL_i (okL_i (okL_i (okL_b (fun _ => okL_b (fun _ => okL_p rfl))) okL_e) okL_e) (okL_i (okL_b (fun _ => okL_o rfl)) (okL_b (fun _ => okL_b (fun _ => okL_b (fun _ => okL_p rfl))))))
theorem sh_1 (h : wk_sh (op : Int) = 1) : op = 2 ∨ op = 3 ∨ op = 4 := by
  unfold wk_sh at h
  (repeat' split at h) <;> omega
theorem sh_1i (h : op = 2 ∨ op = 3 ∨ op = 4) : wk_sh (op : Int) = 1 := by
  rcases h with h | h | h <;> (rw [h]; decide)
theorem sh_3 (h : wk_sh (op : Int) = 3) : op = 11 := by
  have := wk_sh3 h
  omega
theorem sh_3i (h : op = 11) : wk_sh (op : Int) = 3 := by
  rw [h]
  decide
theorem bdZ_O (hE : eR cA ν0 b N T n vs iv s sa) (hD : D = zk b N cA T) (hCx : cx_ cA cb b N) (ht : t < qt D 1) (hpa : (vs 0 (5 * t + 1)).toInt = pa) (hP : (vs 0 (5 * t + 2)).toInt = P)
    (hfn : ∀ i, i < iM D 0 + qt D 3 → fty D i < qt D 1) (hpN : ∀ u, u < qt D 1 → tPa D u + tPn D u ≤ b + N ∧ 0 ≤ (vs 0 (5 * u + 1)).toInt) (hlo : ∀ j, j < lcn → (lo j).toInt = (lo' j).toInt) {E : Nat} (hEN : E ≤ b + N) :
    ∀ (m mf q d : Nat) (cur : List Int) (fs : List s5) (g : Int), wkC cA ν b E m (b + q) d → fs.length = d + 1 → E - (b + q) + 2 ≤ mf → shZ b (bdZ n vs cb lo pa P t lcn ν mf q (cur, fs, g)) = bdO D (ck_lt (qc D) lo' (tPa D t) (tPn D t)) (tPn D t + lcn) (tRt D t) mf (b + q) (cur, fs, g) := by
  have hqc : qc D = cA := by rw [hD]; rfl
  intro m
  induction m with
  | zero => intro mf q d cur fs g h; exact h.elim
  | succ m ih =>
    intro mf q d cur fs g hw hl hmf
    obtain ⟨h1, q', hW, hn, hend⟩ := hw
    rw [Nat.add_sub_cancel_left] at hn
    obtain ⟨op, hop⟩ : ∃ op : Nat, (cA (b + q)).toInt % 256 = op := ⟨((cA (b + q)).toInt % 256).toNat, by omega⟩
    have ho : op ≤ 255 := by omega
    have hcq : cb q = cA (b + q) := hCx.1 q (by omega)
    have hopc : (cb q).toInt % 256 = op := by rw [hcq]; exact hop
    have hopq : (qc D (b + q)).toInt % 256 = op := by rw [hqc]; exact hop
    have hqW : qW (qc D) (b + q) = q' := by rw [hqc]; exact qW_E hW
    rw [hop] at hW hn hend
    have hb := rW_b hW
    have hq' : q' ≤ b + N := by
      rcases hend with ⟨e1, e2, -⟩ | ⟨-, e2, -⟩
      · have := hW.1 (.inr (.inr e2))
        omega
      · omega
    obtain ⟨k, hk⟩ : ∃ k, mf = k + 1 := ⟨mf - 1, by omega⟩
    subst hk
    match fs, hl with
    | f :: r, hl =>
      have hr : r.length = d := by simpa using hl
      have hZO := ckZ_O (cur := cur) (f := f) (r := r) (g := g) hE hD hCx hW hn hq' ht hpa hP hfn hpN hlo ho
      have hnx : b + nxZ cb ν q = q' := by
        unfold nxZ
        rw [hopc]
        by_cases h8 : wk_sh (op : Int) = 1
        · rw [if_pos h8]
          have := (hW.2.1 h8).1
          omega
        · rw [if_neg h8]
          by_cases h7 : 4 ≤ wk_sh (op : Int)
          · rw [if_pos h7]
            have := (hn h7).1
            omega
          · rw [if_neg h7]
            have := hW.1 (by omega)
            omega
      obtain ⟨R, hR⟩ : ∃ R, R = ckO D (ck_lt (qc D) lo' (tPa D t) (tPn D t)) (tPn D t + lcn) (tRt D t) (b + q) op cur f r g := ⟨_, rfl⟩
      rw [← hR] at hZO
      have hlen : okL (if op = 2 ∨ op = 3 ∨ op = 4 then r.length + 2 else if op = 11 then r.length else r.length + 1) R := by rw [hR]; exact ckO_len
      cases R with
      | error c =>
        rw [bdZ_e hopc hZO, bdO_e hopq hR.symm]
        rfl
      | ok s1 =>
        rw [bdZ_s hopc hZO, bdO_s hopq hR.symm hqW]
        obtain ⟨cur', fs', g'⟩ := s1
        have hl2 := hlen _ rfl
        simp only at hl2
        rcases hend with ⟨e1, e2, e3⟩ | ⟨e1, e2, e3⟩
        · rw [if_neg (fun h9 => by have := sh_3 e2; omega), if_pos (sh_3 e2)] at hl2
          have : fs' = [] := List.length_eq_zero_iff.mp (by omega)
          subst this
          obtain ⟨k2, hk2⟩ : ∃ k2, k = k2 + 1 := ⟨k - 1, by omega⟩
          subst hk2
          rfl
        · rw [← hnx] at e3 ⊢
          refine ih k (nxZ cb ν q) _ cur' fs' g' e3 ?_ (by omega)
          rw [hl2]
          by_cases h8 : wk_sh (op : Int) = 1
          · rw [if_pos (sh_1 h8), if_pos h8]
            omega
          · rw [if_neg (fun h9 => h8 (sh_1i h9)), if_neg h8]
            by_cases h7 : wk_sh (op : Int) = 3
            · rw [if_pos (sh_3 h7), if_pos h7]
              have : ¬ d = 0 := fun h9 => e1 ⟨h7, h9⟩
              omega
            · rw [if_neg (fun h9 => h7 (sh_3i h9)), if_neg h7]
              omega
end CCG
