-- the class from outside: invoke, name
theorem va_cpy_lo {α : Type} {f g : Nat → α} {s d n j : Nat} (hj : j < d) : va_cpy f g s d n j = g j := if_neg (by omega)
theorem va_cpy_in {α : Type} {f g : Nat → α} {d n j : Nat} (hj : j < n) : va_cpy f g 0 d n (d + j) = f j := by
  unfold va_cpy
  rw [if_pos (by omega), show 0 + (d + j - d) = j by omega]
/-- an export of an instance -/
def ivK (W : wD) (x1 x2 : Int32) (i j : Nat) : Prop := x1.toInt = i ∧ i < wic W ∧ x2.toInt = j ∧ j < dn (wd W i) 6 / 5
section HO6
variable {own own' own2 ad ad' : Nat → Nat} {h h' h2 : xb_H} {W W' : wD} {σ ts ts' K rc rs bc bs bc' bs' : Nat}
/-- no arguments are left -/
theorem cI.ar (hI : cI own ad h W σ ts K) (h' : xb_H) (e' : h' = xb_I h (ad 16) 1 0) : cI own ad h' W σ ts K ∧ stp [16] [] own ad own ad h h' := by
  obtain ⟨⟨hB, hW, hS, hr, hf⟩, ⟨t1, t2, t3, t4, t5⟩, ⟨m1, mc, m2, m3, m4⟩, ⟨r1, r2, r3⟩, ⟨na, ⟨b1, b2, b3, b4, b5, b6, b7, b8⟩, a2⟩, n1, n2, n3, n4⟩ := id hI
  have s : stp [16] [] own ad own ad h h' := by rw [e']; exact stp.Ic hB
  have cm : ∀ k, k < 41 → k ≠ 16 → xh_sm h h' (ad k) := fun k hk h1 => (s.cm hB (by decide) (fun x hx => by cases hx) hk (by simp; omega)).2
  have nn : xb_n h' = xb_n h := by rw [e', xh_nI]
  refine ⟨⟨⟨s.1, hW.st hB s (by decide), hS.st' hB s (by decide), hr.st hB s (by decide), hf.st hB s (by decide) (fun x hx => by cases hx) (by decide) (by decide)⟩, ⟨by rw [(cm 0 (by omega) (by omega)).1]; exact t1, by rw [nn]; exact t2, by rw [nn]; exact t3, by rw [nn]; exact t4, fun j => by rw [(cm 1 (by omega) (by omega)).1]; exact t5 j⟩, ⟨by rw [nn]; exact m1, mc, by rw [(cm 0 (by omega) (by omega)).1]; exact m2, m3, fun i hi => ?_⟩, ⟨by rw [nn]; exact r1, by rw [nn]; exact r2, fun k hk => by rw [nn]; exact r3 k hk⟩, ⟨0, ⟨by rw [e', xh_kI]; exact b1, by rw [e', xh_iI, if_pos rfl, xh_up, if_neg (by omega)]; exact b2, by rw [e', xh_iI, if_pos rfl, xh_up, if_pos rfl]; rfl, by rw [e', xh_rI]; exact b4, by rw [e', xh_kI]; exact b5, by omega, by rw [nn]; exact b7, by rw [nn]; exact b8⟩, by omega⟩, by rw [(cm 29 (by omega) (by omega)).1]; exact n1, by rw [(cm 14 (by omega) (by omega)).1]; exact n2, by rw [nn]; exact n3, by rw [nn]; exact n4⟩, s⟩
  obtain ⟨md, d, j1, j2⟩ := m4 i hi
  exact ⟨md, d, by rw [(cm 2 (by omega) (by omega)).2.2]; exact j1, j2.fr (fun a h1 h2 => s.n1 hB (by decide) h1 (by simp) h2 (by omega)) s.2.2.2.1 (fun a _ h2 => h2)⟩
theorem ho_invoke {x1 x2 : Int32} {Qr : xb_H → Nat → Nat → Prop} {Qt : String → xb_H → Nat → Nat → Prop} (hI : cI own ad h W σ ts (K + 1)) (hg : cG ad h W ts (K + 1) rc rs bc bs) {na : Nat} (hna : (xb_i h (ad 16) 1).toInt = na) (hQ : ∀ (i j k f : Nat) (h' : xb_H) (own' : Nat → Nat) (q bc' bs' : Nat), ivK W x1 x2 i j → (dvs (wd W i) 6 (5 * j + 1)).toInt = 0 → (dvs (wd W i) 6 (5 * j + 2)).toInt = k → k < nf (wd W i) → (dvs (wd W i) 0 (5 * (dvs (wd W i) 2 (2 * k + 1)).toInt.toNat + 2)).toInt = na → xb_i h (ad 15) 3 = 0 → f = fnI h W i k → vf W f → fT W f = ftm (wd W i) k → stp [15, 37, 16] [] own ad own' (va_up ad 37 q) h h' → ((xb_i h' (ad 15) 3).toInt = 1 ∧ (xb_i h' (ad 15) 4).toInt = 0 ∧ (xb_i h' (ad 15) 8).toInt = f ∧ (xb_i h' (ad 15) 10).toInt = na) → (∀ k, k ≠ 3 → k ≠ 8 → k ≠ 4 → k ≠ 10 → xb_i h' (ad 15) k = xb_i h (ad 15) k) → xb_l h' (ad 15) = xb_l h (ad 15) → (∀ t, t < na → xb_l h' q t = arV (dcb (wd W i) ((dvs (wd W i) 0 (5 * (dvs (wd W i) 2 (2 * k + 1)).toInt.toNat + 1)).toInt.toNat + t)).toInt (xb_l h (ad 17) t)) → (xb_i h' (ad 16) 1).toInt = 0 → cI own' (va_up ad 37 q) h' W σ ts K → cG (va_up ad 37 q) h' W ts K rc rs bc' bs' → Qr h' bc' bs') (hQt1 : (byd (wic W) x1 ∨ ∃ i : Nat, x1.toInt = i ∧ i < wic W ∧ byd (dn (wd W i) 6 / 5) x2) → Qt "java/lang/IndexOutOfBoundsException" h (bc - 1) (bs - 6)) (hQt2 : (∃ i j : Nat, ivK W x1 x2 i j ∧ ((dvs (wd W i) 6 (5 * j + 1)).toInt ≠ 0 ∨ ∃ k : Nat, (dvs (wd W i) 6 (5 * j + 1)).toInt = 0 ∧ (dvs (wd W i) 6 (5 * j + 2)).toInt = k ∧ (dvs (wd W i) 0 (5 * (dvs (wd W i) 2 (2 * k + 1)).toInt.toNat + 2)).toInt ≠ na)) → Qt "java/lang/IllegalArgumentException" h (bc - 1) (bs - 6)) (hQt3 : (∃ i j k : Nat, ivK W x1 x2 i j ∧ (dvs (wd W i) 6 (5 * j + 1)).toInt = 0 ∧ (dvs (wd W i) 6 (5 * j + 2)).toInt = k ∧ (dvs (wd W i) 0 (5 * (dvs (wd W i) 2 (2 * k + 1)).toInt.toNat + 2)).toInt = na ∧ xb_i h (ad 15) 3 ≠ 0) → Qt "java/lang/IllegalStateException" h (bc - 1) (bs - 6)) : w_H_invoke (ad 0) x1 x2 h bc bs Qr Qt := by
  obtain ⟨⟨hB, hW, hS, hr, hf⟩, ⟨t1, t2, t3, t4, t5⟩, -, -, ⟨na', a1, a2⟩, -⟩ := id hI
  have ena : na' = na := by have := a1.2.2.1; omega
  subst ena
  unfold w_H_invoke
  refine ⟨hB.k 0 (by omega), ho_inst hB hW (fun i hi hi2 _ => ?_) (fun e => ho_ex hg (hQt1 (.inl e)))⟩
  obtain ⟨-, hiO⟩ := hW.2.2.2.2.2.2.1.2.2.2 i hi2
  obtain ⟨c1, c2, c3, c4, hm⟩ := hiO.1
  refine ⟨c1, _, c4, ho_exb hm (fun j hj hj2 _ => ?_) (fun e => ho_ex hg (hQt1 (.inr ⟨i, hi, hi2, e⟩)))⟩
  have hK : ivK W x1 x2 i j := ⟨hi, hi2, hj, hj2⟩
  obtain ⟨p1, p2, p3, p4⟩ := hm.xp hj2
  refine ⟨_, c4, hm.1.k, _, hm.1.row (k := 6) (by omega), hm.1.krow (by omega), md_at (c := 5) hm.1 (i := j) (j := 1) (by omega) rfl hj rfl (by omega) p1 (fun r13 e13 _ => ⟨fun e => ⟨_, c4, hm.1.k, _, hm.1.row (k := 6) (by omega), hm.1.krow (by omega), md_at (c := 5) hm.1 (i := j) (j := 2) (by omega) rfl hj rfl (by omega) p1 (fun r20 e20 _ => ?_)⟩, fun e => ho_ex hg (hQt2 ⟨i, j, hK, .inl (by rw [z_eq, e13, show (0 : Int32).toInt = 0 from rfl] at e; omega)⟩)⟩)⟩
  rw [z_eq, e13, show (0 : Int32).toInt = 0 from rfl] at e
  have h9 := p4 (by omega)
  have hnf := hm.nn.2.2.1
  obtain ⟨fk, hfk⟩ : ∃ fk : Nat, (dvs (wd W i) 6 (5 * j + 2)).toInt = fk := ⟨_, (Int.toNat_of_nonneg p3.1).symm⟩
  have y1 : r20.toInt = fk := by omega
  have y2 : fk < nf (wd W i) := by omega
  obtain ⟨f1, f2, f3, f4, f5⟩ := hm.fn y2
  refine ⟨_, c4, hm.1.k, mo_typeOf hm y1 y2 (fun r24 e24 _ => ⟨_, c4, hm.1.k, md_parameters hm.1 hm.2.1.1.1 e24 f3 (fun r28 e28 e29 e30 _ => ⟨ad 16, hB.r (0, 8, 16) (by decide), hB.k 16 (by omega), fun e31 => ho_ruw hB (fun h3 _ => ⟨ad 15, hB.r (0, 7, 15) (by decide), iO_functionId hiO hW.1.2.1 y1 y2 (fun r36 f g1 g2 ⟨g3, g3f⟩ _ => ⟨hB.k 15 (by omega), mc_begin hB (fun h38 s38 z1 z2 z3 z4 z5 z6 _ => ?_)⟩)⟩) (fun h3 => ho_ex hg (hQt3 ⟨i, j, fk, hK, by omega, hfk, by rw [z_eq, a1.2.2.1, e28] at e31; exact e31, h3⟩)), fun e31 => ho_ex hg (hQt2 ⟨i, j, hK, .inr ⟨fk, by omega, hfk, fun h9 => e31 (z_eq.mpr (by rw [a1.2.2.1, e28]; exact h9))⟩⟩)⟩)⟩)⟩
  rw [z_eq, a1.2.2.1, e28] at e31
  have hm38 : mo own h38 (wim W i) (wd W i) := hm.fr (fun a g1 g2 => s38.n1 hB (by decide) g1 (by simp) g2 (by omega)) s38.2.2.2.1 (fun a _ g2 => g2)
  have cm38 : ∀ k, k < 41 → k ≠ 15 → xh_sm h h38 (ad k) := fun k hk h1 => (s38.cm hB (by decide) (fun x hx => by cases hx) hk (by simp; omega)).2
  have sw := s38.n1 hB (by decide) (a := wia W i) (by omega) (by simp) c2 (by omega)
  have hgu : bgv ad h (rc + xC ad h W ts (K + 1)) (rs + xS ad h W ts (K + 1)) bc bs := hg
  refine ⟨ad 15, s38.1.r (0, 7, 15) (by decide), ad 16, s38.1.r (0, 8, 16) (by decide), _, by rw [sw.2.2]; exact c4, s38.1.k 15 (by omega), mc_takeArguments s38.1 (hS.st hB s38) hm38 (a1.fr (cm38 16 (by omega) (by omega)) s38.2.2.2.1) a2 e24 f3 e31 (hgu.st hB s38) (fun h44 own44 q bc44 bs44 s44 u1 u2 u3 u4 u5 u6 u7 u8 u9 _ => ?_)⟩
  have hQ' := fun h' => hQ i j fk f h' own44 q bc44 bs44 hK (by omega) hfk y2 e31 h3 g3f g2 g3
  generalize had : va_up ad 37 q = ad44 at s44 u7
  rw [show va_up ad 37 q = ad44 from had] at hQ'
  have A : ∀ k, k ≠ 37 → ad44 k = ad k := fun k hk => by rw [← had, xh_up, if_neg hk]
  have a37 : ad44 37 = q := by rw [← had, xh_up, if_pos rfl]
  have sA : stp [15, 15, 37] [] own ad own44 ad44 h h44 := (s38.tr s44).mono (by decide) (fun k hk => by simpa using hk)
  have cA : ∀ k, k < 41 → k ≠ 15 → k ≠ 37 → ad44 k = ad k ∧ xh_sm h h44 (ad k) := fun k hk h1 h2 => sA.cm hB (by decide) (fun x hx => by cases hx) hk (by simp; omega)
  have a0 := A 0 (by omega)
  have nn : ∀ k, k < 41 → k ≠ 37 → xb_n h44 (ad44 k) = xb_n h (ad k) := fun k hk h1 => by rw [A k h1]; exact (sA.2.2.2.1 _ (hB.z k hk)).2
  have hlen : (tyf (wd W i) (dvs (wd W i) 2 (2 * fk + 1)).toInt.toNat).1.length = na' := by
    unfold tyf
    rw [ptl_len]
    omega
  have hr44 : rS ad44 h44 W := by
    refine .inr (.inl ⟨f, ?_, ?_, ?_, g2, ?_, ?_, ?_⟩)
    · rw [A 15 (by omega), u1 3 (by omega)]; exact z1
    · rw [A 15 (by omega), u1 4 (by omega)]; exact z2
    · rw [A 15 (by omega), u1 8 (by omega), z3]; exact g1
    · rw [A 15 (by omega), g3, u2]
      unfold ftm
      rw [hlen]
    · rw [g3, a37]
      unfold ftm
      rw [hlen]
      exact u3
    · rw [g3, a37]
      exact u6
  have hS44 : mS ad44 h44 := by
    obtain ⟨S1, S2, S3, S4⟩ := hS
    unfold mS
    rw [nn 36 (by omega) (by omega), nn 38 (by omega) (by omega), a37]
    exact ⟨S1, S2, u4, u5⟩
  have hI44 : cI own44 ad44 h44 W σ ts K := hI.dn.st sA (by decide) (by rw [(cA 0 (by omega) (by omega) (by omega)).2.1]; exact t1) (Nat.le_refl _) (by rw [(cA 0 (by omega) (by omega) (by omega)).2.1]) (by rw [(cA 14 (by omega) (by omega) (by omega)).2.1]) (hW.st hB sA (by decide)) hS44 hr44 (hf.st hB sA (by decide) (fun x hx => by cases hx) (by decide) (by decide))
  have r08 := sA.1.r (0, 8, 16) (by decide)
  rw [show ((0, 8, 16) : Nat × Nat × Nat).1 = 0 from rfl, a0] at r08
  refine ⟨ad44 16, r08, sA.1.k 16 (by omega), fun h48 e48 => ?_⟩
  obtain ⟨hI48, s48⟩ := hI44.ar h48 e48
  have hg44 : cG ad44 h44 W ts K rc rs bc44 bs44 := hg.st u7 (nn 1 (by omega) (by omega)) (nn 31 (by omega) (by omega)) (Nat.le_refl _) (Nat.le_refl _)
  have hg48 : cG ad44 h48 W ts K rc rs bc44 bs44 := by
    have e48n : xb_n h48 = xb_n h44 := by rw [e48, xh_nI]
    have := (show bgv ad44 h44 (rc + xC ad44 h44 W ts K) (rs + xS ad44 h44 W ts K) bc44 bs44 from hg44).st sA.1 s48
    unfold cG xC xS
    rw [e48n]
    exact this
  have n1516 : ad 15 ≠ ad 16 := hB.ne (by omega) (by omega) (by omega)
  have i48 : xb_i h48 (ad 15) = xb_i h44 (ad 15) := by rw [e48, A 16 (by omega), xh_iI, if_neg n1516]
  have l48 : xb_l h48 = xb_l h44 := by rw [e48, xh_lI]
  have l17 : xb_l h38 (ad 17) = xb_l h (ad 17) := by rw [z6]
  refine hQ' h48 ((sA.tr s48).mono (by decide) (fun k hk => by simpa using hk)) ⟨?_, ?_, ?_, ?_⟩ (fun k h3 h8 h4 h10 => ?_) (by rw [l48, u9, z6]) (fun t ht => by rw [l48, u8 t ht, l17]) ?_ hI48 hg48
  · rw [i48, u1 3 (by omega)]; exact z1
  · rw [i48, u1 4 (by omega)]; exact z2
  · rw [i48, u1 8 (by omega), z3]; exact g1
  · rw [i48]; exact u2
  · rw [i48, u1 k h10]; exact z5 k h3 h8 h4 h10
  · rw [e48, A 16 (by omega), xh_iI, if_pos rfl, xh_up, if_pos rfl]
    rfl
theorem nP_up {n t : Nat} (h1 : n < t) (h2 : 16 ≤ n) (h3 : t ≤ 10240) : 2 * t + nP (2 * t) ≤ nP n ∧ 1 + nP (2 * t) / 8 ≤ nP n / 8 := by
  unfold nP
  omega
theorem ho_name {x1 : Int32} {Qr : xb_H → Nat → Nat → Prop} {Qt : String → xb_H → Nat → Nat → Prop} (hI : cI own ad h W σ ts (K + 1)) (hg : cG ad h W ts (K + 1) rc rs bc bs) {nn0 ns0 : Nat} (hnn : (xb_i h (ad 29) 1).toInt = (3 * nn0 : Nat)) (hns : (xb_i h (ad 14) 11).toInt = ns0) (hQ : ∀ (i : Nat) (h' : xb_H) (own' ad' : Nat → Nat) (bc' bs' : Nat), x1.toInt = i → i < wic W → stp [0, 14, 29, 30, 31] [] own ad own' ad' h h' → ((xb_i h' (ad 29) 1).toInt = (3 * (nn0 + 1) : Nat) ∧ (xb_i h' (ad 14) 11).toInt = (ns0 + ts : Nat)) → (∀ k, k ≠ 11 → xb_i h' (ad 14) k = xb_i h (ad 14) k) → xb_i h' (ad 0) = va_up (xb_i h (ad 0)) 1 0 → ((∀ j, j < 3 * nn0 → xb_l h' (ad' 30) j = xb_l h (ad 30) j) ∧ (xb_l h' (ad' 30) (3 * nn0)).toInt = ns0 ∧ (xb_l h' (ad' 30) (3 * nn0 + 1)).toInt = ts ∧ (xb_l h' (ad' 30) (3 * nn0 + 2)).toInt = i) → ((∀ j, j < ns0 → xb_i h' (ad' 31) j = xb_i h (ad 31) j) ∧ ∀ j, j < ts → xb_i h' (ad' 31) (ns0 + j) = xb_i h (ad 1) j) → cI own' ad' h' W σ 0 K → cG ad' h' W 0 K rc rs bc' bs' → Qr h' bc' bs') (hQt : byd (wic W) x1 → Qt "java/lang/IndexOutOfBoundsException" h (bc - 1) (bs - 6)) : w_H_name (ad 0) x1 h bc bs Qr Qt := by
  obtain ⟨⟨hB, hW, hS, hr, hf⟩, ⟨t1, t2, t3, t4, t5⟩, ⟨m1, mc, m2, m3, m4⟩, ⟨r1, r2, r3⟩, ⟨na, a1, a2⟩, n1, n2, n3, n4⟩ := id hI
  obtain ⟨nn, ns, w1, w2, w3, w4, w5⟩ := hW.2.2.2.2.2.1
  have enn : nn = nn0 := by have := w1.2.2.1; omega
  have ens : ns = ns0 := by omega
  subst enn
  subst ens
  have hic := hW.2.2.2.2.2.2.1.2.1
  have wn := w1.2.2.1
  unfold w_H_name
  refine ⟨hB.k 0 (by omega), ho_inst hB hW (fun i hi hi2 _ => ⟨ad 14, hB.r (0, 6, 14) (by decide), ?_⟩) (fun e => ho_ex hg (hQt e))⟩
  obtain ⟨-, hiO⟩ := hW.2.2.2.2.2.2.1.2.2.2 i hi2
  refine ⟨hiO.1.1, ad 1, hB.r (0, 0, 1) (by decide), hB.k 14 (by omega), ?_⟩
  have hii : (xb_i h (wia W i) 0).toInt = i := hiO.1.2.2.1
  generalize xb_i h (wia W i) 0 = xi at hii
  -- from where there is room for the bytes
  have L33 : ∀ (own1 ad1 : Nat → Nat) (h1 : xb_H) (bc1 bs1 : Nat), stp [14, 31] [] own ad own1 ad1 h h1 → xb_i h1 (ad 14) = xb_i h (ad 14) → (∀ j, j < ns → xb_i h1 (ad1 31) j = xb_i h (ad 31) j) → ns + ts ≤ xb_n h1 (ad1 31) → 16 ≤ xb_n h1 (ad1 31) → xb_n h1 (ad1 31) ≤ 20480 → bg ad1 h1 (rc + (tP (xb_n h (ad 1)) / 8 + nP (xb_n h1 (ad1 31)) / 8 + 12 * ts + 245 * (K + 1) + 6 * (25 - wic W)) + vP (xb_n h (ad 37)) / 8) (rs + (tP (xb_n h (ad 1)) + nP (xb_n h1 (ad1 31)) + 99 * ts + 3020 * (K + 1) + 19000 * (25 - wic W)) + vP (xb_n h (ad 37))) bc1 bs1 → w_World_addName_L33 (fun (h8 : xb_H) (bc9 bs9 : Nat) => xb_ext h h8 → ∀ h10 : xb_H, h10 = xb_I h8 (ad 0) 1 0 → Qr h10 bc9 bs9) (ad 14) xi (ad 1) (xb_i h (ad 0) 1) h1 bc1 bs1 := by
    intro own1 ad1 h1 bc1 bs1 s1 i14 i31 l1 l2 l3 g1
    have a14 : ad1 14 = ad 14 := s1.2.2.2.2.2.2 14 (by decide)
    have a29 : ad1 29 = ad 29 := s1.2.2.2.2.2.2 29 (by decide)
    have cm1 : ∀ k, k < 41 → k ≠ 14 → k ≠ 31 → ad1 k = ad k ∧ xh_sm h h1 (ad k) := fun k hk h1 h2 => s1.cm hB (by decide) (fun x hx => by cases hx) hk (by simp; omega)
    have c1 : (xb_i h1 (ad 14) 11).toNatClampNeg = ns := by rw [i14, z_cl, w2, Int.toNat_natCast]
    have c2 : (xb_i h (ad 0) 1).toNatClampNeg = ts := by rw [z_cl, t1, Int.toNat_natCast]
    have n11 : xb_n h1 (ad 1) = xb_n h (ad 1) := (s1.2.2.2.1 _ (hB.z 1 (by omega))).2
    have r10 := s1.1.r (14, 10, 31) (by decide)
    rw [show ((14, 10, 31) : Nat × Nat × Nat).1 = 14 from rfl, a14] at r10
    unfold w_World_addName_L33
    rw [c1, c2]
    refine ⟨by rw [← a14]; exact s1.1.k 14 (by omega), ad1 31, r10, s1.2.2.2.1.k (c := 99) (hB.k 1 (by omega)), s1.1.k 31 (by omega), ⟨by decide, ?_, ?_, ?_, ?_⟩, fun h6 e6 => ?_⟩
    · rw [i14, z_lt, w2, show (0 : Int32).toInt = 0 from rfl]
      omega
    · rw [z_lt, t1, show (0 : Int32).toInt = 0 from rfl]
      omega
    · rw [n11, show (0 : Int32).toNatClampNeg = 0 from rfl]
      omega
    · exact l1
    have s6 : stp [31] [] own1 ad1 own1 ad1 h1 h6 := by
      rw [e6]
      refine ⟨s1.1, fun _ _ => rfl, fun _ _ => rfl, fun _ _ => ⟨rfl, rfl⟩, fun b _ _ hb => ?_, fun _ => .inl rfl, fun _ _ => rfl⟩
      exact ⟨by rw [xh_iIa, if_neg (hb 31 (by simp))], rfl, rfl⟩
    have sA6 : stp [14, 31] [] own ad own1 ad1 h h6 := (s1.tr s6).mono (by decide) (fun k hk => by simpa using hk)
    have cm6 : ∀ k, k < 41 → k ≠ 14 → k ≠ 31 → ad1 k = ad k ∧ xh_sm h h6 (ad k) := fun k hk h1 h2 => sA6.cm hB (by decide) (fun x hx => by cases hx) hk (by simp; omega)
    have i146 : xb_i h6 (ad 14) = xb_i h (ad 14) := by
      have := (s6.cm s1.1 (by decide) (fun x hx => by cases hx) (k := 14) (by omega) (by decide)).2.1
      rw [a14] at this
      rw [this, i14]
    have n6 : ∀ k, k < 41 → xb_n h6 (ad1 k) = xb_n h1 (ad1 k) := fun k hk => (s6.2.2.2.1 _ (s1.1.z k hk)).2
    have g6 := g1.nn (h' := h6) n6
    have R6 : xr_row h6 (ad1 29) 3 (3 * nn) (ad1 30) := by
      rw [a29, (cm6 30 (by omega) (by omega) (by omega)).1]
      exact w1.fr (cm6 29 (by omega) (by omega) (by omega)).2 sA6.2.2.2.1
    have r29 := sA6.1.r (14, 9, 29) (by decide)
    rw [show ((14, 9, 29) : Nat × Nat × Nat).1 = 14 from rfl, a14] at r29
    refine ⟨ad1 29, r29, sA6.1.k 29 (by omega), wr_add (r := 29) (by decide) sA6.1 R6 (by show _ < 1800; omega) g6 (fun h9 q9 bc9 bs9 x1 x2 x3 x4 x5 x6 x7 x8 _ => ?_)⟩
    have s9' := stp.row (r := 29) (by decide) x1 x5 x6 x7
    generalize rown own1 h6 q9 (29 + 3) = own9 at s9' x1
    generalize had9 : va_up ad1 (29 + 1) q9 = ad9 at s9' x1 x8
    have A9 : ∀ k, k ≠ 30 → ad9 k = ad1 k := fun k hk => by rw [← had9, xh_up, if_neg hk]
    have q9e : ad9 30 = q9 := by rw [← had9, xh_up, if_pos rfl]
    have r299 := s9'.1.r (14, 9, 29) (by decide)
    rw [show ((14, 9, 29) : Nat × Nat × Nat).1 = 14 from rfl, A9 14 (by omega), a14] at r299
    refine ⟨ad9 29, r299, s9'.1.k 29 (by omega), wr_add (r := 29) (c := 3) (n := 3 * nn + 1) (by decide) s9'.1 (by rw [A9 29 (by omega), q9e]; exact x2) (by show _ < 1800; omega) x8 (fun h13 q13 bc13 bs13 y1 y2 y3 y4 y5 y6 y7 y8 _ => ?_)⟩
    have s13 := stp.row (r := 29) (by decide) y1 y5 y6 y7
    generalize rown own9 h9 q13 (29 + 3) = own13 at s13 y1
    generalize had13 : va_up ad9 (29 + 1) q13 = ad13 at s13 y1 y8
    have A13 : ∀ k, k ≠ 30 → ad13 k = ad1 k := fun k hk => by rw [← had13, xh_up, if_neg hk]; exact A9 k hk
    have q13e : ad13 30 = q13 := by rw [← had13, xh_up, if_pos rfl]
    have r2913 := s13.1.r (14, 9, 29) (by decide)
    rw [show ((14, 9, 29) : Nat × Nat × Nat).1 = 14 from rfl, A13 14 (by omega), a14] at r2913
    refine ⟨ad13 29, r2913, s13.1.k 29 (by omega), wr_add (r := 29) (c := 3) (n := 3 * nn + 1 + 1) (by decide) s13.1 (by rw [A13 29 (by omega), q13e, ← A9 29 (by omega)]; exact y2) (by show _ < 1800; omega) y8 (fun h17 q17 bc17 bs17 z1 z2 z3 z4 z5 z6 z7 z8 _ h19 e19 _ h10 e10 => ?_)⟩
    have s17 := stp.row (r := 29) (by decide) z1 z5 z6 z7
    generalize rown own13 h13 q17 (29 + 3) = own17 at s17 z1
    generalize had17 : va_up ad13 (29 + 1) q17 = ad17 at s17 z1 z8
    have A17 : ∀ k, k ≠ 30 → ad17 k = ad1 k := fun k hk => by rw [← had17, xh_up, if_neg hk]; exact A13 k hk
    have q17e : ad17 30 = q17 := by rw [← had17, xh_up, if_pos rfl]
    have b14 : ad17 14 = ad 14 := by rw [A17 14 (by omega), a14]
    have b0 : ad17 0 = ad 0 := by rw [A17 0 (by omega)]; exact (cm1 0 (by omega) (by omega) (by omega)).1
    have s19 : stp [14] [] own17 ad17 own17 ad17 h17 h19 := by rw [e19, ← b14]; exact stp.Ic s17.1
    have s10 : stp [0] [] own17 ad17 own17 ad17 h19 h10 := by rw [e10, ← b0]; exact stp.Ic s19.1
    have S617 := ((s9'.tr s13).tr s17).mono (C2 := [29, 30]) (X2 := []) (by decide) (fun k hk => by simpa using hk)
    have SA := ((sA6.tr S617).tr (s19.tr s10)).mono (C2 := [0, 14, 29, 30, 31]) (X2 := []) (by decide) (fun k hk => by simpa using hk)
    have cA : ∀ k, k < 41 → k ∉ [0, 14, 29, 30, 31] → ad17 k = ad k ∧ xh_sm h h10 (ad k) := fun k hk hn => SA.cm hB (by decide) (fun x hx => by cases hx) hk hn
    have B17 : ∀ k, k < 41 → k ≠ 30 → k ≠ 31 → ad17 k = ad k := fun k hk h1 h2 => by
      rw [A17 k h1]
      by_cases h9 : k = 14
      · rw [h9]; exact a14
      · exact (cm1 k hk h9 h2).1
    have nA : ∀ k, k < 41 → k ≠ 30 → k ≠ 31 → xb_n h10 (ad17 k) = xb_n h (ad k) := fun k hk h1 h2 => by
      rw [B17 k hk h1 h2]
      exact (SA.2.2.2.1 _ (hB.z k hk)).2
    have n31 : xb_n h10 (ad17 31) = xb_n h1 (ad1 31) := by
      rw [A17 31 (by omega), ← n6 31 (by omega)]
      exact ((S617.tr (s19.tr s10)).2.2.2.1 _ (sA6.1.z 31 (by omega))).2
    have n140 : ad 14 ≠ ad 0 := hB.ne (by omega) (by omega) (by omega)
    have c17 : ∀ k, k < 41 → k ≠ 29 → k ≠ 30 → ad17 k = ad1 k ∧ xh_sm h6 h17 (ad1 k) := fun k hk h1 h2 => S617.cm sA6.1 (by decide) (fun x hx => by cases hx) hk (by simp; omega)
    have i14A : xb_i h10 (ad 14) = va_up (xb_i h (ad 14)) 11 (xb_i h (ad 14) 11 + xb_i h (ad 0) 1) := by
      have e9 := (c17 14 (by omega) (by omega) (by omega)).2.1
      rw [a14] at e9
      rw [e10, xh_iI, if_neg n140, e19, xh_iI, if_pos rfl, e9, i146]
    have i0A : xb_i h10 (ad 0) = va_up (xb_i h (ad 0)) 1 0 := by
      have e9 := (c17 0 (by omega) (by omega) (by omega)).2.1
      rw [(cm1 0 (by omega) (by omega) (by omega)).1] at e9
      rw [e10, xh_iI, if_pos rfl, e19, xh_iI, if_neg n140.symm, e9, (cm6 0 (by omega) (by omega) (by omega)).2.1]
    have e11 : (xb_i h10 (ad 14) 11).toInt = (ns + ts : Nat) := by
      rw [i14A, xh_up, if_pos rfl, z_add, w2, t1]
      omega
    have s1910 := s19.tr s10
    have c30 := s1910.cm s17.1 (by decide) (fun x hx => by cases hx) (k := 30) (by omega) (by decide)
    have c29 := s1910.cm s17.1 (by decide) (fun x hx => by cases hx) (k := 29) (by omega) (by decide)
    have l30 : xb_l h10 (ad17 30) = xb_l h17 q17 := by rw [c30.2.2.1, q17e]
    have R10 : xr_row h10 (ad17 29) 3 (3 * (nn + 1)) (ad17 30) := by
      have z2' : xr_row h17 (ad17 29) 3 (3 * nn + 1 + 1 + 1) (ad17 30) := by
        rw [A17 29 (by omega), q17e, ← A13 29 (by omega)]
        exact z2
      rw [show 3 * (nn + 1) = 3 * nn + 1 + 1 + 1 by omega]
      exact z2'.fr c29.2 s1910.2.2.2.1
    have lo : ∀ j, j < 3 * nn → xb_l h10 (ad17 30) j = xb_l h (ad 30) j := fun j hj => by
      rw [l30, z3 j (by omega), show ad13 (29 + 1) = q13 from q13e, y3 j (by omega), show ad9 (29 + 1) = q9 from q9e, x3 j hj]
      rw [show ad1 (29 + 1) = ad 30 from (cm6 30 (by omega) (by omega) (by omega)).1, (cm6 30 (by omega) (by omega) (by omega)).2.2.1]
    have v0 : (xb_l h10 (ad17 30) (3 * nn)).toInt = ns := by
      rw [l30, z3 _ (by omega), show ad13 (29 + 1) = q13 from q13e, y3 _ (by omega), show ad9 (29 + 1) = q9 from q9e, x4, Z_of32, i146, w2]
    have v1 : (xb_l h10 (ad17 30) (3 * nn + 1)).toInt = ts := by
      rw [l30, z3 _ (by omega), show ad13 (29 + 1) = q13 from q13e, y4, Z_of32, t1]
    have v2 : (xb_l h10 (ad17 30) (3 * nn + 1 + 1)).toInt = i := by
      rw [l30, z4, Z_of32, hii]
    have he := SA.2.2.2.1
    have hWA : wI own17 ad17 h10 W σ := by
      obtain ⟨⟨o1, o2, o3⟩, ⟨p1, p2, p3⟩, ⟨e1, e2, e3⟩, ⟨q1, q2⟩, ⟨un, u1, u2⟩, -, ⟨l1', l2', l3', l4'⟩, ⟨⟨g1n, g1'⟩, g2n, g2'⟩, ⟨s1', s2', s3'⟩⟩ := hW
      have C : ∀ k, k ∉ [0, 14, 29, 30, 31] → k < 41 → ad17 k = ad k ∧ xh_sm h h10 (ad k) := fun k hn hk => cA k hk hn
      have c19 := C 19 (by decide) (by omega)
      have c20 := C 20 (by decide) (by omega)
      have c21 := C 21 (by decide) (by omega)
      have c22 := C 22 (by decide) (by omega)
      have c23 := C 23 (by decide) (by omega)
      have c24 := C 24 (by decide) (by omega)
      have c25 := C 25 (by decide) (by omega)
      have c26 := C 26 (by decide) (by omega)
      have c27 := C 27 (by decide) (by omega)
      have c28 := C 28 (by decide) (by omega)
      have c18 := C 18 (by decide) (by omega)
      have c32 := C 32 (by decide) (by omega)
      have c33 := C 33 (by decide) (by omega)
      have c34 := C 34 (by decide) (by omega)
      have c35 := C 35 (by decide) (by omega)
      refine ⟨⟨?_, o2, fun f hf => ?_⟩, ⟨?_, p2, fun v hv => ?_⟩, ⟨?_, e2, fun e h9 => ?_⟩, ⟨?_, q2⟩, ⟨un, ?_, u2⟩, ⟨nn + 1, ns + ts, R10, by rw [b14]; exact e11, ?_, ?_, fun k hk => ?_⟩, ⟨?_, l2', ?_, fun k hk => ?_⟩, ⟨⟨g1n, ?_⟩, g2n, ?_⟩, ⟨trivial, trivial, trivial⟩⟩
      · rw [c19.1, c20.1]; exact o1.fr c19.2 he
      · rw [c20.1, c20.2.2.1]; exact o3 f hf
      · rw [c21.1, c22.1]; exact p1.fr c21.2 he
      · rw [c22.1, c22.2.2.1]; exact p3 v hv
      · rw [c23.1, c24.1]; exact e1.fr c23.2 he
      · rw [c24.1, c24.2.2.1]; exact e3 e h9
      · rw [c25.1, c26.1]; exact q1.fr c25.2 he
      · rw [c27.1, c28.1]; exact u1.fr c27.2 he
      · rw [n31]; exact l1
      · rw [n31]; omega
      · by_cases h9 : k < nn
        · rw [lo _ (by omega), lo _ (by omega), lo _ (by omega)]
          have := w5 k h9
          omega
        · have : k = nn := by omega
          subst this
          rw [v0, v1, show 3 * k + 2 = 3 * k + 1 + 1 by omega, v2]
          omega
      · rw [nA 18 (by omega) (by omega) (by omega)]; exact l1'
      · rw [b14, i14A, xh_up, if_neg (by omega)]; exact l3'
      · rw [c18.1, c18.2.2.2]
        exact ⟨(l4' k hk).1, (l4' k hk).2.fr (fun a h1 h2 => SA.n1 hB (by decide) (t := own a) h1 (by simp) rfl (by omega)) he SA.2.2.1 c25.1⟩
      · rw [c32.1, c33.1]; exact g1'.fr c32.2 he
      · rw [c34.1, c35.1]; exact g2'.fr c34.2 he
    have e31 : xb_i h10 (ad17 31) = va_cpy (xb_i h1 (ad 1)) (xb_i h1 (ad1 31)) 0 ns ts := by
      have y1 := (s1910.cm s17.1 (by decide) (fun x hx => by cases hx) (k := 31) (by omega) (by decide)).2.1
      have y2 := (c17 31 (by omega) (by omega) (by omega)).2.1
      rw [y1, A17 31 (by omega), y2, e6, xh_iIa, if_pos rfl]
      rfl
    have i1' : xb_i h1 (ad 1) = xb_i h (ad 1) := (cm1 1 (by omega) (by omega) (by omega)).2.1
    have b29 : ad17 29 = ad 29 := B17 29 (by omega) (by omega) (by omega)
    refine hQ i h10 own17 ad17 bc17 bs17 hi hi2 SA ⟨by rw [← b29]; exact R10.2.2.1, e11⟩ (fun k hk => by rw [i14A, xh_up, if_neg hk]) i0A ⟨lo, v0, v1, v2⟩ ⟨fun j hj => ?_, fun j hj => ?_⟩ ⟨⟨SA.1, hWA, hS.st' hB SA (by decide), hr.st hB SA (by decide), hf.st hB SA (by decide) (fun x hx => by cases hx) (by decide) (by decide)⟩, ⟨by rw [b0, i0A, xh_up, if_pos rfl]; rfl, by omega, by rw [nA 1 (by omega) (by omega) (by omega)]; exact t3, by rw [nA 1 (by omega) (by omega) (by omega)]; exact t4, fun j => by rw [(cA 1 (by omega) (by decide)).1, (cA 1 (by omega) (by decide)).2.1]; exact t5 j⟩, ⟨by rw [nA 2 (by omega) (by omega) (by omega)]; exact m1, mc, by rw [b0, i0A, xh_up, if_neg (by omega)]; exact m2, m3, fun k hk => ?_⟩, ⟨by rw [nA 4 (by omega) (by omega) (by omega)]; exact r1, by rw [nA 6 (by omega) (by omega) (by omega)]; exact r2, fun k hk => by rw [nA (k + 7) (by omega) (by omega) (by omega)]; exact r3 k hk⟩, ⟨na, ?_, a2⟩, ?_, by rw [b14, e11]; omega, by rw [n31]; exact l2, by rw [n31]; exact l3⟩ ?_
    · rw [e31, ← i31 j hj]
      exact va_cpy_lo hj
    · rw [e31, ← i1']
      exact va_cpy_in hj
    · obtain ⟨md, d, j1, j2⟩ := m4 k hk
      exact ⟨md, d, by rw [(cA 2 (by omega) (by decide)).1, (cA 2 (by omega) (by decide)).2.2.2]; exact j1, j2.fr (fun a h1 h2 => SA.n1 hB (by decide) h1 (by simp) h2 (by omega)) he (fun a h1 h2 => by rw [SA.2.2.1 a h1]; exact h2)⟩
    · rw [(cA 16 (by omega) (by decide)).1, (cA 17 (by omega) (by decide)).1]
      exact a1.fr (cA 16 (by omega) (by decide)).2 he
    · rw [R10.2.2.1]
      omega
    · have g10 := z8.nn (h' := h10) (fun k hk => (s1910.2.2.2.1 _ (s17.1.z k hk)).2)
      obtain ⟨g1', g2'⟩ := g10
      unfold cG bgv bg xC xS
      rw [n31, nA 1 (by omega) (by omega) (by omega), nA 37 (by omega) (by omega) (by omega)]
      omega
  have hnI := z_nI (n := xb_n h (ad 31)) (by omega)
  have k31 : xb_k h (ad 31) = 100 := hB.k 31 (by omega)
  have esum : (xb_i h (ad 14) 11 + xb_i h (ad 0) 1).toInt = (ns + ts : Nat) := by
    rw [z_add, w2, t1]
    omega
  have hgu : bg ad h (rc + xC ad h W ts (K + 1) + vP (xb_n h (ad 37)) / 8) (rs + xS ad h W ts (K + 1) + vP (xb_n h (ad 37))) bc bs := hg
  unfold w_World_addName
  refine ⟨hB.k 14 (by omega), ad 31, hB.r (14, 10, 31) (by decide), k31, fun e => ?_, fun e => ⟨ad 31, hB.r (14, 10, 31) (by decide), ?_⟩⟩
  · rw [z_le, esum, hnI] at e
    exact L33 own ad h bc bs ((stp.rf hB).mono (by decide) (fun k hk => hk)) rfl (fun _ _ => rfl) (by omega) n3 n4 hgu
  · rw [z_le, esum, hnI] at e
    have e2 : (2 * (xb_i h (ad 14) 11 + xb_i h (ad 0) 1)).toInt = (2 * (ns + ts) : Nat) := by
      rw [z_mul, esum, show (2 : Int32).toInt = 2 from rfl]
      omega
    obtain ⟨v1, v2⟩ := nP_up (n := xb_n h (ad 31)) (t := ns + ts) (by omega) n3 (by omega)
    have hg1 : 1 ≤ bc ∧ 2 * (ns + ts) ≤ bs := by
      obtain ⟨g1, g2⟩ := hgu
      unfold xC at g1
      unfold xS at g2
      omega
    refine sp_copyOf0b k31 (by omega) (by omega) (by omega) hg1.1 (by omega) (fun q zq f g1 g2 _ h9 e9 => ?_)
    rw [e2, Int.toNat_natCast] at e9 ⊢
    obtain ⟨s9', i9, nq9, io9, lo9, no9⟩ := stp.rep (p := 14) (k := 10) (c := 31) hB zq rfl (by decide) (by omega) (by omega) (by omega) (by decide) h9 e9
    have nq : ∀ k, k < 41 → ad k ≠ q := fun k hk e9 => hB.z k hk (e9 ▸ zq)
    have u1 : va_up ad 31 q 31 = q := by rw [xh_up, if_pos rfl]
    have uk : ∀ k, k ≠ 31 → va_up ad 31 q k = ad k := fun k hk => by rw [xh_up, if_neg hk]
    refine L33 _ _ h9 (bc - 1) (bs - 2 * (ns + ts)) s9' (io9 _ (nq 14 (by omega))) (fun j hj => by rw [u1, i9]; exact g1 j (by omega) (by omega)) (by rw [u1, nq9]; omega) (by rw [u1, nq9]; omega) (by rw [u1, nq9]; omega) ?_
    have hsp := hgu.le (rc' := rc + (tP (xb_n h (ad 1)) / 8 + nP (2 * (ns + ts)) / 8 + 12 * ts + 245 * (K + 1) + 6 * (25 - wic W)) + vP (xb_n h (ad 37)) / 8 + 1) (rs' := rs + (tP (xb_n h (ad 1)) + nP (2 * (ns + ts)) + 99 * ts + 3020 * (K + 1) + 19000 * (25 - wic W)) + vP (xb_n h (ad 37)) + 2 * (ns + ts)) (by unfold xC; omega) (by unfold xS; omega)
    rw [u1, nq9]
    exact (hsp.sp3 (fun r hr => by
      have h8 : ∀ r ∈ rwl, r + 1 < 41 ∧ r + 1 ≠ 31 := by decide
      obtain ⟨h1, h2⟩ := h8 r hr
      exact ⟨uk _ h2, no9 _ (nq _ h1)⟩)).2.2
end HO6
