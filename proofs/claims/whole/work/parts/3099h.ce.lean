-- a run: control
/-- where an instance's table begins, how many elements it has -/
def tbF (h : xb_H) (W : wD) (i : Nat) : Nat := (xb_i h ((xb_r h (wia W i) 6).getD 0) 0).toInt.toNat
def tbZ (h : xb_H) (W : wD) (i : Nat) : Nat := (xb_i h ((xb_r h (wia W i) 6).getD 0) 1).toInt.toNat
/-- an element is chosen by number j: its trap, or the function -/
def ceC (h : xb_H) (ad : Nat → Nat) (W : wD) (i u j : Nat) (κ : Nat) (f : Nat) : Prop :=
  (κ = 6 ∧ tbZ h W i ≤ j) ∨ (κ = 7 ∧ j < tbZ h W i ∧ (xb_l h (ad 24) (tbF h W i + j)).toInt = -1) ∨ (κ = 8 ∧ j < tbZ h W i ∧ (xb_l h (ad 24) (tbF h W i + j)).toInt = f ∧ vf W f ∧ fT W f ≠ tyf (wd W i) u) ∨ (κ = 0 ∧ j < tbZ h W i ∧ (xb_l h (ad 24) (tbF h W i + j)).toInt = f ∧ vf W f ∧ fT W f = tyf (wd W i) u)
section CT9
variable {own own' ad ad' : Nat → Nat} {h h' h1 : xb_H} {W : wD} {σ D : Nat} {gx : Nat → fG} {t P lcn p0 E g : Nat} {lo ν0 : Nat → Int32} {G : ctG}
theorem mc_chosenElement {u : Nat} {c : List Int} {Qr : Int32 → xb_H → Prop} (hB : cB own ad h) (hW : wI own ad h W σ) (hS : mS ad h) (hr : rX ad h W D gx t P lcn p0 E lo ν0 g G) (hc : gC (gx (D - 1)) = 127 :: c) (hT : 0 < dn (wd W (gI (gx (D - 1)))) 3 / 3) (hb : ct_B (dnu (wd W (gI (gx (D - 1))))) p0 E (gA (gx (D - 1)) + 1) u) (hu : u < dn (wd W (gI (gx (D - 1)))) 0 / 5)
    (hQ1 : ∀ (h' : xb_H) (κ j f : Nat), stp [15, 36] [] own ad own ad h h' → oR ad h ad h' W (trD κ D gx (gA (gx (D - 1)))) → κ ≠ 0 → (xb_l h (ad 37) (gO (gx (D - 1)) + c.length)).toInt = j → ceC h ad W (gI (gx (D - 1))) u j κ f → Qr (-1) h')
    (hQ2 : ∀ (h' : xb_H) (r : Int32) (f j : Nat), stp [15] [] own ad own ad h h' → nK ad h h' → xb_l h' = xb_l h → (xb_l h (ad 37) (gO (gx (D - 1)) + c.length)).toInt = j → ceC h ad W (gI (gx (D - 1))) u j 0 f → r.toInt = f → vf W f → fT W f = tyf (wd W (gI (gx (D - 1)))) u → rX ad h' W D (va_up gx (D - 1) (gR_ (gx (D - 1)) (gA (gx (D - 1))) c)) t P lcn p0 E lo ν0 g G → Qr r h') : w_Machine_chosenElement (ad 15) h Qr := by
  obtain ⟨-, ⟨t1, t2, t3, t4, t5, t6, t7⟩, -, ⟨a, a5, b1, b2, b3, b7, b5, b6⟩, -, -⟩ := id hr
  obtain ⟨p1, p2, p3, p4⟩ := hr.tp1 hS hc
  unfold w_Machine_chosenElement w_Machine_chosenElement_L122
  refine ⟨hB.k 15 (by omega), fun h2 e2 => ?_⟩
  have hX := hr.pop hB hc p2
  rw [← e2] at hX
  have s2 : stp [15] [] own ad own ad h h2 := by rw [e2]; exact stp.Ic hB
  have hW2 : wI own ad h2 W σ := hW.mc hB s2 (by simp) (fun h9 => by simp at h9)
  have hS2 := hS.st hB s2
  have i210 : xb_i h2 (ad 15) 10 = xb_i h (ad 15) 10 - 1 := by rw [e2, xh_iI, if_pos rfl, xh_up, if_pos rfl]
  have i215 : xb_i h2 (ad 15) 15 = xb_i h (ad 15) 15 := by rw [e2, xh_iI, if_pos rfl, xh_up, if_neg (by omega)]
  have r2 : xb_r h2 = xb_r h := by rw [e2, xh_rI]
  have n2 : xb_n h2 = xb_n h := by rw [e2, xh_nI]
  have l2 : xb_l h2 = xb_l h := by rw [e2, xh_lI]
  obtain ⟨l5, hiO⟩ := hW2.2.2.2.2.2.2.1.2.2.2 _ a5
  obtain ⟨⟨q1, q2, q3, q4, q5⟩, -, -, -, -, ⟨tb1, tb2⟩, -⟩ := id hiO
  obtain ⟨-, ⟨m6, m7, m8, m9⟩, -, -, m10⟩ := id q5.1
  obtain ⟨-, ⟨g1, g2, g3, g4, g5, -⟩, -⟩ := id b1
  obtain ⟨ta, hta⟩ := tb1 hT
  obtain ⟨k1, k2, fr, sz, k3, k4, k5⟩ := tb2 ta hta
  have n3615 : ad 36 ≠ ad 15 := hB.ne (by omega) (by omega) (by omega)
  have nk2 : nK ad h h2 := ⟨by rw [l2], by rw [e2, xh_iI, if_pos rfl, xh_up, if_neg (by omega)], by rw [e2, xh_iI, if_neg n3615]⟩
  have hval := p4 (.inl rfl)
  obtain ⟨j, hj⟩ : ∃ j : Nat, (xb_l h (ad 37) (gO (gx (D - 1)) + c.length)).toInt = j := ⟨_, (Int.toNat_of_nonneg hval.1).symm⟩
  have eZ : tbZ h W (gI (gx (D - 1))) = sz := by
    unfold tbZ
    rw [← r2, hta, Option.getD_some]
    have e9 : xb_i h2 ta = xb_i h ta := by rw [e2, xh_iI, if_neg (hB.n1 (by omega) k2)]
    rw [← e9, k4, Int.toNat_natCast]
  have eF : tbF h W (gI (gx (D - 1))) = fr := by
    unfold tbF
    rw [← r2, hta, Option.getD_some]
    have e9 : xb_i h2 ta = xb_i h ta := by rw [e2, xh_iI, if_neg (hB.n1 (by omega) k2)]
    rw [← e9, k3, Int.toNat_natCast]
  have fallQ : ∀ (x : Int32) (κ f : Nat), x.toInt = κ → κ ≠ 0 → ceC h ad W (gI (gx (D - 1))) u j κ f → w_Machine_fall (ad 15) x h2 (fun (h35 : xb_H) => xb_ext h2 h35 → Qr (-1) h35) := fun x κ f hκ hκ0 hce => hX.fall s2.1 hW2 hS2 hκ (fun h' s f1 _ => hQ1 h' κ j f ((s2.tr s).mono (by decide) (fun k hk => by simpa using hk)) (by
    rw [show gA (va_up gx (D - 1) (gR_ (gx (D - 1)) (gA (gx (D - 1))) c) (D - 1)) = gA (gx (D - 1)) by rw [xh_up, if_pos rfl]; rfl] at f1
    unfold gR_ at f1
    rw [trD_up] at f1
    exact f1.nk nk2) hκ0 hj hce)
  refine ⟨_, by rw [r2]; exact t5, q1, fun e9 => ?_, fun b5' e5' => ?_⟩
  · rw [hta] at e9
    cases e9
  · rw [hta] at e5'
    have eb : b5' = ta := (Option.some.inj e5').symm
    subst eb
    refine ⟨ad 37, s2.1.r (15, 9, 37) (by decide), s2.1.k 37 (by omega), by rw [i210, n2]; exact p1, k1, ?_⟩
    rw [i210, p3, l2]
    refine ⟨fun e => ?_, fun e => fallQ 6 6 0 rfl (by decide) (.inl ⟨rfl, by rw [eZ]; rw [Z_lt, Z_of32, k4] at e; omega⟩)⟩
    rw [Z_lt, Z_of32, k4] at e
    obtain ⟨v1, v2, v3⟩ := hW2.2.2.1
    have ej : (xb_i h2 b5' 0 + Int64.toInt32 (xb_l h (ad 37) (gO (gx (D - 1)) + c.length))).toInt = (fr + j : Nat) := by
      rw [z_add, k3, z_l2i hj (by omega)]
      omega
    have e24 := v1
    obtain ⟨y1, y2, y3, y4, y5, y6, y7, y8⟩ := v1
    have e1 : ((xb_i h2 b5' 0 + Int64.toInt32 (xb_l h (ad 37) (gO (gx (D - 1)) + c.length))) * xb_i h2 (ad 23) 2 + 0).toInt = (fr + j : Nat) := z_row1 ej (by rw [y2]; rfl) (by omega)
    have hel := v3 (fr + j) (by omega)
    refine ⟨ad 14, s2.1.r (15, 0, 14) (by decide), s2.1.k 14 (by omega), ad 23, s2.1.r (14, 4, 23) (by decide), ad 37, s2.1.r (15, 9, 37) (by decide), s2.1.k 37 (by omega), by rw [n2]; exact p1, s2.1.k 23 (by omega), ?_⟩
    unfold w_Row_at
    refine ⟨y1, ad 24, y4, y5, by rw [z_in, e1]; omega, fun _ => ?_⟩
    rw [z_cl, e1, Int.toNat_natCast]
    generalize hel2 : Int64.toInt32 (xb_l h2 (ad 24) (fr + j)) = r22
    have hr22 : (r22.toInt = -1 ∧ (xb_l h (ad 24) (fr + j)).toInt = -1) ∨ ∃ f : Nat, r22.toInt = f ∧ vf W f ∧ (xb_l h (ad 24) (fr + j)).toInt = f := by
      rw [l2] at hel hel2
      rcases hel with h9 | ⟨f, h9, h8⟩
      · left
        refine ⟨?_, h9⟩
        rw [← hel2, z_of64, h9]
        rfl
      · right
        refine ⟨f, ?_, h8, h9⟩
        have hno := hW2.1.2.1
        rw [← hel2]
        refine z_l2i h9 ?_
        rcases h8 with h8 | h8 <;> omega
    refine ⟨fun e22 => ⟨ad 14, s2.1.r (15, 0, 14) (by decide), _, by rw [r2]; exact t5, q1, _, q4, _, by rw [r2]; exact t7, m7, ?_, s2.1.k 14 (by omega), ?_⟩, fun e22 => ?_⟩
    · have e9 : (xb_i h2 (ad 15) 15 + 1).toInt = (gA (gx (D - 1)) + 1 : Nat) := by rw [i215]; exact z_inc t2 (by have := hb.2.1; omega)
      rw [z_in, e9, m8]
      have := hb.2.1
      omega
    · have e9 : (xb_i h2 (ad 15) 15 + 1).toInt = (gA (gx (D - 1)) + 1 : Nat) := by rw [i215]; exact z_inc t2 (by have := hb.2.1; omega)
      have c9 : (xb_i h2 (ad 15) 15 + 1).toNatClampNeg = gA (gx (D - 1)) + 1 := by rw [z_cl, e9, Int.toNat_natCast]
      obtain ⟨f, hf1, hf2, hf3⟩ : ∃ f : Nat, r22.toInt = f ∧ vf W f ∧ (xb_l h (ad 24) (fr + j)).toInt = f := by
        rcases hr22 with h9 | h9
        · exact absurd (z_eq.mpr h9.1) e22
        · exact h9
      rw [c9, m9]
      refine wI_fits s2.1 hW2.1 hW2.2.2.2.2.2.2.1 q5 hf1 hf2 hb.2.2 hu (fun r33 hr33 _ => ⟨fun e33 => ?_, fun e33 => fallQ 8 8 f rfl (by decide) (.inr (.inr (.inl ⟨rfl, by rw [eZ]; omega, by rw [eF]; exact hf3, hf2, ?_⟩)))⟩)
      · rcases hr33 with ⟨h9, -⟩ | ⟨-, h9⟩
        · exact absurd h9 e33
        · exact hQ2 h2 r22 f j s2 nk2 l2 hj (.inr (.inr (.inr ⟨rfl, by rw [eZ]; omega, by rw [eF]; exact hf3, hf2, h9⟩))) hf1 hf2 h9 hX
      · rcases hr33 with ⟨-, h9⟩ | ⟨h9, -⟩
        · exact h9
        · rw [h9] at e33
          exact absurd e33 (by decide)
    · rcases hr22 with h9 | ⟨f, h9, -⟩
      · rw [e22]
        exact fallQ 7 7 0 rfl (by decide) (.inr (.inl ⟨rfl, by rw [eZ]; omega, by rw [eF]; exact h9.2⟩))
      · rw [e22, show (-1 : Int32).toInt = -1 from rfl] at h9
        omega
/-- before a call, from within an instruction -/
theorem rX.cp {f a' : Nat} {c : List Int} {gs : List gF} (hr : rX ad h W D gx t P lcn p0 E lo ν0 g G) (hc : gC (gx (D - 1)) = (fT W f).1 ++ c) (hG : G 0 a' (tp (fT W f).2 ++ c) gs) : cP ad h W D (va_up gx (D - 1) (gT_ (gx (D - 1)) a' c gs)) f (gO (gx (D - 1)) + c.length) := by
  obtain ⟨⟨d1, d2, d3, d4, d5⟩, ⟨t1, t2, t3, t4, t5, t6, t7⟩, h3, ⟨a, a5, b1, b2, b3, b7, b5, b6⟩, h4, h5⟩ := id hr
  obtain ⟨x', hx'⟩ : ∃ x', x' = gT_ (gx (D - 1)) a' c gs := ⟨_, rfl⟩
  rw [← hx']
  have x1 : gI x' = gI (gx (D - 1)) := by rw [hx']; rfl
  have x2 : gK x' = gK (gx (D - 1)) := by rw [hx']; rfl
  have x3 : gB x' = gB (gx (D - 1)) := by rw [hx']; rfl
  have x4 : gO x' = gO (gx (D - 1)) := by rw [hx']; rfl
  have x5 : gA x' = a' := by rw [hx']; rfl
  have x6 : gC x' = c := by rw [hx']; rfl
  have x7 : gS x' = gs := by rw [hx']; rfl
  have u1 : va_up gx (D - 1) x' (D - 1) = x' := by rw [xh_up, if_pos rfl]
  have u2 : ∀ j, j + 1 < D → va_up gx (D - 1) x' j = gx j := fun j hj => by rw [xh_up, if_neg (by omega)]
  rw [hc] at t1 b6 b7
  simp only [List.length_append] at t1 b7
  rw [vst.app] at b6
  refine ⟨⟨d2, d3, d4, d5⟩, ⟨by rw [t1]; omega, by omega, b6.1⟩, ⟨fun e => by omega, fun _ => ⟨by rw [u1, x4, x6], ?_, by rw [u1, x3]; exact t3, by rw [u1, x4]; exact t4, by rw [u1, x1]; exact t5, by rw [u1, x1]; exact t6, by rw [u1, x1]; exact t7⟩⟩, fun j hj => ?_, fun j hj => ?_⟩
  · by_cases h9 : D = 1
    · subst h9
      rw [show (0 : Nat) = 1 - 1 from rfl, u1, x3]
      exact h5
    · rw [u2 0 (by omega)]
      exact h5
  · by_cases h9 : j + 1 = D
    · rw [if_pos h9, show j = D - 1 by omega, u1]
      exact ⟨by rw [x1, x2, x3, x4]; exact a, by rw [x1]; exact a5, t, P, lcn, p0, E, lo, ν0, g, G, by rw [x1, x2]; exact b1, by rw [x3, x4]; exact b2, by rw [x4]; exact b3, by rw [x5, x6, x7]; exact hG, by rw [x1, x3]; exact b5, by rw [x4, x6]; exact b6.2⟩
    · rw [if_neg h9, u2 j (by omega)]
      have eT : rT W (va_up gx (D - 1) x' (j + 1)) = rT W (gx (j + 1)) := by
        by_cases hj3 : j + 1 + 1 = D
        · rw [show j + 1 = D - 1 by omega, u1]
          unfold rT
          rw [x1, x2]
        · rw [u2 (j + 1) (by omega)]
      rw [eT]
      exact h3 j (by omega)
  · rw [u2 j hj]
    obtain ⟨f1, f2⟩ := h4 j hj
    refine ⟨f1, ?_⟩
    by_cases hj3 : j + 1 + 1 = D
    · rw [show j + 1 = D - 1 by omega, u1, x3, ← f2, show j + 1 = D - 1 by omega]
    · rw [u2 (j + 1) (by omega)]
      exact f2
theorem caQ.pre {rc rs bc' bs' : Nat} {C : List Nat} {o : Oc} {e : Option Int64} (hB : cB own ad h) (s : stp C [] own ad own ad h h1) (hC : ∀ k ∈ C, k ∈ caC ∧ k ≠ 27 ∧ k ≠ 28) (hk : nK ad h h1) (hq : caQ own ad h1 W σ rc rs own' ad' h' bc' bs' o e) : caQ own ad h W σ rc rs own' ad' h' bc' bs' o e := by
  obtain ⟨c1, c2, c3, c4, c6, c5⟩ := hq
  have hC41 : ∀ k ∈ C, k < 41 := fun k h9 => caC_lt k (hC k h9).1
  refine ⟨(s.tr c1).mono (fun k hk => ?_) (fun k hk => by simpa using hk), c2, c3, c4.nk hk, c6.pre rfl rfl (s.cm hB hC41 (fun x hx => by cases hx) (k := 27) (by omega) (fun h9 => (hC 27 h9).2.1 rfl)).2.1 (s.cm hB hC41 (fun x hx => by cases hx) (k := 28) (by omega) (fun h9 => (hC 28 h9).2.2 rfl)).2.2.1, c5⟩
  rcases List.mem_append.mp hk with h9 | h9
  · exact (hC k h9).1
  · exact h9
theorem caQ.of {rc rs bc bs : Nat} {C : List Nat} {o : Oc} (hB : cB own ad h) (hW : wI own ad h W σ) (hS : mS ad h) (hg : bgv ad h rc rs bc bs) (s : stp C [] own ad own ad h h') (hC : ∀ k ∈ C, k = 15 ∨ k = 36 ∨ k = 37) (hr : oR ad h ad h' W o) : caQ own ad h W σ rc rs own ad h' bc bs o none := by
  have hC41 : ∀ k ∈ C, k < 41 := fun k h9 => by have := hC k h9; omega
  refine ⟨s.mono (fun k hk => ?_) (fun k hk => hk), hW.mc hB s (fun k hk => by have := hC k hk; omega) (fun h9 => by have := hC 22 h9; omega), hS.st hB s, hr, ⟨(s.cm hB hC41 (fun x hx => by cases hx) (k := 27) (by omega) (fun h9 => by have := hC 27 h9; omega)).2.1, rfl, (s.cm hB hC41 (fun x hx => by cases hx) (k := 28) (by omega) (fun h9 => by have := hC 28 h9; omega)).2.2.1⟩, ?_⟩
  · rcases hC k hk with e | e | e <;> rw [e] <;> decide
  · unfold bgv
    rw [(s.2.2.2.1 _ (hB.z 37 (by omega))).2]
    exact (hg.sp (c := 0) (s := 0) (ad' := ad) (h' := h') (fun k hk => ⟨rfl, (s.2.2.2.1 _ (hB.z k hk)).2⟩)).2.2
/-- some topmost values are taken away -/
theorem rX.pops {pre c : List Int} {z : Int32} (hB : cB own ad h) (hr : rX ad h W D gx t P lcn p0 E lo ν0 g G) (hc : gC (gx (D - 1)) = pre ++ c) (hz : z.toInt = (gO (gx (D - 1)) + c.length : Nat)) : rX ad (xb_I h (ad 15) 10 z) W D (va_up gx (D - 1) (gR_ (gx (D - 1)) (gA (gx (D - 1))) c)) t P lcn p0 E lo ν0 g G := by
  obtain ⟨-, ⟨t1, t2, -⟩, -, ⟨a, a5, b1, b2, b3, b7, b5, b6⟩, -, -⟩ := id hr
  have n15 : ad 38 ≠ ad 15 := hB.ne (by omega) (by omega) (by omega)
  rw [hc] at b6 b7
  simp only [List.length_append] at b7
  rw [vst.app] at b6
  exact hr.go (fun j j1 j2 => by rw [xh_iI, if_pos rfl, xh_up, if_neg j1]) (by rw [xh_rI]) (by rw [xh_iI, if_neg n15]) (by rw [xh_nI]) (fun j _ => by rw [xh_lI]) (by rw [xh_iI, if_pos rfl, xh_up, if_pos rfl]; exact hz) (by rw [xh_iI, if_pos rfl, xh_up, if_neg (by omega)]; exact t2) (by omega) (fun i hi => by rw [xh_lI]; exact b5 i hi) (by rw [xh_lI]; exact b6.2)
end CT9
