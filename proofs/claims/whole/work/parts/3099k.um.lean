-- a run: memory instructions
/-- an instance's memory, its pages' numbers, how many they are, how many they may be -/
def mmA (h : xb_H) (W : wD) (i : Nat) : Nat := (xb_r h (wia W i) 7).getD 0
def mmS (h : xb_H) (W : wD) (i : Nat) : Nat := (xb_r h (mmA h W i) 2).getD 0
def mmP (h : xb_H) (W : wD) (i : Nat) : Nat := (xb_i h (mmA h W i) 3).toInt.toNat
def mmX (h : xb_H) (W : wD) (i : Nat) : Int := (xb_l h (mmA h W i) 1).toInt
/-- where a memory instruction reads or writes -/
def umQ (v : Int64) (n : Int32) : Nat := v.toInt.toNat + (n.toInt % 4294967296).toNat
/-- a memory instruction: the outcome, the bytes -/
def umC (h : xb_H) (ad : Nat → Nat) (W : wD) (D : Nat) (gx : Nat → fG) (B : ctN) (op : Nat) (gs : List gF) (o : Oc) (b' : Nat → Nat) : Prop :=
  ∃ (τ : List Int) (c : List Int) (q : Nat), gC (gx (D - 1)) = τ ++ 127 :: c ∧ q = umQ (xb_l h (ad 37) (gO (gx (D - 1)) + c.length)) (dnu (wd W (gI (gx (D - 1)))) (gA (gx (D - 1)) + 2)) ∧ (op < 54 → τ = []) ∧ (54 ≤ op → τ.length = 1) ∧
  ((65536 * mmP h W (gI (gx (D - 1))) < q + (MB (op - 40)).toNat ∧ b' = byA (xb_l h (ad 26)) ∧ o = trD 2 D gx (gA (gx (D - 1)))) ∨
   (q + (MB (op - 40)).toNat ≤ 65536 * mmP h W (gI (gx (D - 1))) ∧ ∃ x : Nat, B (gA (gx (D - 1))) x ∧
    ((op < 54 ∧ b' = byA (xb_l h (ad 26)) ∧ ∃ r : Int64, r.toBitVec.toNat = gth (fun j => byA (xb_l h (ad 26)) (mpA (xb_i h (mmS h W (gI (gx (D - 1))))) (q + j))) (MB (op - 40)).toNat ∧ o = .inl (D, va_up gx (D - 1) (gT_ (gx (D - 1)) x (MT (op - 40) :: c) gs), va_up (xb_l h (ad 37)) (gO (gx (D - 1)) + c.length) (wdn op r))) ∨
     (54 ≤ op ∧ b' = sto (byA (xb_l h (ad 26))) (fun j => mpA (xb_i h (mmS h W (gI (gx (D - 1))))) (q + j)) (xb_l h (ad 37) (gO (gx (D - 1)) + c.length + 1)).toBitVec.toNat (MB (op - 40)).toNat ∧ o = .inl (D, va_up gx (D - 1) (gT_ (gx (D - 1)) x c gs), xb_l h (ad 37))))))
section UM1
variable {own own' ad ad' : Nat → Nat} {h h' h1 : xb_H} {W : wD} {σ D : Nat} {gx : Nat → fG} {t P lcn p0 E g : Nat} {lo ν0 : Nat → Int32} {G : ctG}
/-- the same run where the machine's own things are the same -/
theorem rX.cg (hr : rX ad h W D gx t P lcn p0 E lo ν0 g G) (i15 : xb_i h' (ad 15) = xb_i h (ad 15)) (r15 : xb_r h' (ad 15) = xb_r h (ad 15)) (i38 : xb_i h' (ad 38) = xb_i h (ad 38)) (n37 : xb_n h' (ad 37) = xb_n h (ad 37)) (l37 : xb_l h' (ad 37) = xb_l h (ad 37)) : rX ad h' W D gx t P lcn p0 E lo ν0 g G := by
  unfold rX mT at *
  rw [i15, r15, i38, n37, l37]
  exact hr
theorem mc_useMemory {x1 : Int32} {o : Nat} {gs : List gF} {Qr : xb_H → Prop} (hB : cB own ad h) (hW : wI own ad h W σ) (hS : mS ad h) (hr : rX ad h W D gx t P lcn p0 E lo ν0 g G) (hx : x1.toInt = o) (h1 : 40 ≤ o) (h2 : o < 63) (hl : ct_LC (dn (wd W (gI (gx (D - 1))))) (dvs (wd W (gI (gx (D - 1))))) (dcb (wd W (gI (gx (D - 1))))) lo t lcn ν0 G (ct_B (dnu (wd W (gI (gx (D - 1))))) p0 E) o (gA (gx (D - 1))) (gC (gx (D - 1))) gs)
    (hQ : ∀ (h' : xb_H) (oc : Oc), stp [15, 26, 36, 37] [] own ad own ad h h' → oR ad h ad h' W oc → umC h ad W D gx (ct_B (dnu (wd W (gI (gx (D - 1))))) p0 E) o gs oc (byA (xb_l h' (ad 26))) → Qr h') : w_Machine_useMemory (ad 15) x1 h Qr := by
  obtain ⟨-, ⟨t1, t2, t3, t4, t5, t6, t7⟩, -, ⟨a, a5, b1, b2, b3, b7, b5, b6⟩, -, -⟩ := id hr
  obtain ⟨l5, hiO⟩ := hW.2.2.2.2.2.2.1.2.2.2 _ a5
  obtain ⟨⟨q1, q2, q3, q4, q5⟩, -, -, -, -, -, tm1, tm2⟩ := id hiO
  obtain ⟨-, ⟨m6, m7, m8, m9⟩, -, -, m10⟩ := id q5.1
  obtain ⟨-, ⟨e1, e2, e3, e4, e5, -⟩, -, g0, -⟩ := id b1
  obtain ⟨f1, x, f2, f3, f4, -, -, f5, f6⟩ := hl.2.2.2.2.2.2.2.2.2.2.2.2.2.2.2.1 (by omega) (by omega)
  have f4' := f4 (by omega)
  obtain ⟨ma, hma⟩ := tm1 f1
  obtain ⟨k1, k2, k3, k4, sl, pc, k5, k6, k7, k8, k9, k10, k11, k12⟩ := tm2 ma hma
  have hnp := hW.2.2.2.1.2
  have hRow := hW.2.2.2.1.1
  have k15 : xb_k h (ad 15) = 8 := hB.k 15 (by omega)
  have k37 : xb_k h (ad 37) = 103 := hB.k 37 (by omega)
  have r9 : xb_r h (ad 15) 9 = some (ad 37) := hB.r (15, 9, 37) (by decide)
  have S4 := hS.2.2.2
  -- where it goes on
  have nxt : ∀ (h2 : xb_H) (C : List Nat) (c' : List Int), stp C [] own ad own ad h h2 → (∀ k ∈ C, k = 15 ∨ k = 26 ∨ k = 36 ∨ k = 37) → rX ad h2 W D (va_up gx (D - 1) (gR_ (gx (D - 1)) (gA (gx (D - 1))) c')) t P lcn p0 E lo ν0 g G → nK ad h h2 → G 0 x c' gs → umC h ad W D gx (ct_B (dnu (wd W (gI (gx (D - 1))))) p0 E) o gs (.inl (D, va_up gx (D - 1) (gT_ (gx (D - 1)) x c' gs), xb_l h2 (ad 37))) (byA (xb_l h2 (ad 26))) → w_Machine_useMemory_L173 Qr (ad 15) h2 := by
    intro h2 C c' s2 hC hX hk2 hG2 hum
    unfold w_Machine_useMemory_L173
    have hW2 : wI own ad h2 W σ := hW.mc hB s2 (fun k hk => by have := hC k hk; omega) (fun h9 => by have := hC 22 h9; omega)
    refine ⟨s2.1.k 15 (by omega), hX.nt (a' := x) (gs := gs) s2.1 hW2 (by rw [gup.2.2.1, gup.1]; exact f2) (by rw [gup.2.1]; exact hG2) (fun h' s hR => hQ h' (.inl (D, va_up gx (D - 1) (gT_ (gx (D - 1)) x c' gs), xb_l h2 (ad 37))) ?_ ?_ ?_)⟩
    rotate_left
    · have e9 : va_up (va_up gx (D - 1) (gR_ (gx (D - 1)) (gA (gx (D - 1))) c')) (D - 1) (gT_ (va_up gx (D - 1) (gR_ (gx (D - 1)) (gA (gx (D - 1))) c') (D - 1)) x (gC (va_up gx (D - 1) (gR_ (gx (D - 1)) (gA (gx (D - 1))) c') (D - 1))) gs) = va_up gx (D - 1) (gT_ (gx (D - 1)) x c' gs) := by
        rw [up_up, xh_up, if_pos rfl]
        rfl
      rw [e9] at hR
      exact hR.nk hk2
    · rw [show xb_l h' (ad 26) = xb_l h2 (ad 26) from (s.cm s2.1 (by decide) (fun x hx => by cases hx) (k := 26) (by omega) (by decide)).2.2.1]
      exact hum
    refine (s2.tr s).mono (fun k hk => ?_) (fun k hk => by simpa using hk)
    rcases List.mem_append.mp hk with h9 | h9
    · have := hC k h9
      simp
      omega
    · simp at h9
      simp
      omega
  have hx40 : (x1 - 40).toInt = (o - 40 : Nat) := by
    rw [z_sub, hx, show (40 : Int32).toInt = 40 from rfl]
    omega
  have c40 : (x1 - 40).toNatClampNeg = o - 40 := by rw [z_cl, hx40, Int.toNat_natCast]
  obtain ⟨mb1, mb2⟩ := MB_rg (o - 40) (by omega)
  obtain ⟨mb, hmb⟩ : ∃ mb : Nat, MB (o - 40) = mb := ⟨_, (Int.toNat_of_nonneg (by omega)).symm⟩
  have hmb' : (xb_cMB.getD (o - 40) 0).toInt = mb := hmb
  have at2 : (xb_i h (ad 15) 15 + 2).toInt = (gA (gx (D - 1)) + 2 : Nat) := by
    rw [z_add, t2, show (2 : Int32).toInt = 2 from rfl]
    have := f2.2.1
    omega
  have xE : x < E := by
    by_cases h9 : o < 54
    · obtain ⟨c, -, h8⟩ := f5 (by omega)
      exact (g0 _ _ _ h8).1.2.1
    · obtain ⟨c, -, h8⟩ := f6 (by omega) (by omega)
      exact (g0 _ _ _ h8).1.2.1
  have L36 : ∀ (y0 x3 : Int32) (p : Nat), y0.toInt = p → p < xb_n h (ad 37) → vr 127 (xb_l h (ad 37) p) → (x3 = 0 → o < 54 ∧ ∃ c, gC (gx (D - 1)) = 127 :: c ∧ p = gO (gx (D - 1)) + c.length ∧ G 0 x (MT (o - 40) :: c) gs) → (¬ x3 = 0 → 54 ≤ o ∧ ∃ c, gC (gx (D - 1)) = MT (o - 40) :: 127 :: c ∧ p = gO (gx (D - 1)) + c.length ∧ G 0 x c gs) → w_Machine_useMemory_L36 Qr (ad 15) x1 (x1 - 40) x3 y0 h := by
    intro y0 x3 p hy0 hpn hvp hA hS2
    have cy0 : y0.toNatClampNeg = p := by rw [z_cl, hy0, Int.toNat_natCast]
    obtain ⟨τc, cc, hcc, hpc, ht1, ht2⟩ : ∃ (τ : List Int) (c : List Int), gC (gx (D - 1)) = τ ++ 127 :: c ∧ p = gO (gx (D - 1)) + c.length ∧ (o < 54 → τ = []) ∧ (54 ≤ o → τ.length = 1) := by
      by_cases e0 : x3 = 0
      · obtain ⟨ho, c, hc, hp, hG⟩ := hA e0
        exact ⟨[], c, hc, hp, fun _ => rfl, fun h9 => by omega⟩
      · obtain ⟨ho, c, hc, hp, hG⟩ := hS2 e0
        exact ⟨[MT (o - 40)], c, hc, hp, fun h9 => by omega, fun _ => rfl⟩
    have hv := hvp (.inl rfl)
    have hdn : xb_i h (dnt (wd W (gI (gx (D - 1))))) (xb_i h (ad 15) 15 + 2).toNatClampNeg = dnu (wd W (gI (gx (D - 1)))) (gA (gx (D - 1)) + 2) := by
      rw [m9, z_cl, at2, Int.toNat_natCast]
    have hlow := Z_low (Int32.toInt64 (xb_i h (dnt (wd W (gI (gx (D - 1))))) (xb_i h (ad 15) 15 + 2).toNatClampNeg))
    rw [Z_of32, hdn] at hlow
    have hby : (xb_i h ma 3 * 65536).toInt = (65536 * pc : Nat) := by
      rw [z_mul, k10, show (65536 : Int32).toInt = 65536 from rfl]
      omega
    have eP : mmP h W (gI (gx (D - 1))) = pc := by
      unfold mmP mmA
      rw [hma, Option.getD_some, k10, Int.toNat_natCast]
    have eS : mmS h W (gI (gx (D - 1))) = sl := by
      unfold mmS mmA
      rw [hma, Option.getD_some, k5, Option.getD_some]
    have emb : (MB (o - 40)).toNat = mb := by rw [hmb, Int.toNat_natCast]
    unfold w_Machine_useMemory_L36 w_Memory_bytes
    rw [c40, cy0]
    refine ⟨k15, ad 37, r9, k37, by rw [z_in, hy0]; omega, _, t7, m7, ?_, fun v8 e8 => ⟨by rw [z_in, hx40]; omega, _, t5, q1, ma, hma, k1, k1, fun _ => ⟨fun e => ?_, fun e => hr.fall hB hW hS (κ := 2) rfl (fun h' s y1 _ => hQ h' _ (s.mono (by decide) (fun k hk => hk)) y1 ⟨τc, cc, _, hcc, rfl, ht1, ht2, .inl ⟨?_, by rw [(s.cm hB (by decide) (fun x hx => by cases hx) (k := 26) (by omega) (by decide)).2.2.1], rfl⟩⟩)⟩⟩⟩
    · rw [z_in, at2, m8]
      omega
    rotate_left
    · rw [hdn] at e8
      have hv8 : v8.toInt = (umQ (xb_l h (ad 37) p) (dnu (wd W (gI (gx (D - 1)))) (gA (gx (D - 1)) + 2)) : Nat) := by
        unfold umQ
        rw [e8, Z_add, hlow]
        omega
      have hsum : (v8 + (xb_cMB.getD (o - 40) 0).toInt64).toInt = v8.toInt + mb := by
        rw [Z_add, Z_of32, hmb', hv8]
        unfold umQ
        omega
      rw [Z_le, hsum, Z_of32, hby, hv8, hpc] at e
      rw [eP, emb]
      omega
    · rw [hdn] at e8
      have hv8 : v8.toInt = (umQ (xb_l h (ad 37) p) (dnu (wd W (gI (gx (D - 1)))) (gA (gx (D - 1)) + 2)) : Nat) := by
        unfold umQ
        rw [e8, Z_add, hlow]
        omega
      have hsum : (v8 + (xb_cMB.getD (o - 40) 0).toInt64).toInt = v8.toInt + mb := by
        rw [Z_add, Z_of32, hmb', hv8]
        unfold umQ
        omega
      rw [Z_le, hsum, Z_of32, hby] at e
      obtain ⟨q, hqq⟩ : ∃ q : Nat, q = umQ (xb_l h (ad 37) p) (dnu (wd W (gI (gx (D - 1)))) (gA (gx (D - 1)) + 2)) := ⟨_, rfl⟩
      have hq : v8.toInt = q := by rw [hv8, hqq]
      rw [hpc] at hqq
      have hq32 : (Int64.toInt32 v8).toInt = q := z_l2i hq (by omega)
      refine ⟨fun e0 => ⟨_, t5, q1, ma, hma, by rw [z_in, hx40]; omega, k1, ?_⟩, fun e0 => ⟨_, t5, q1, ma, hma, by rw [z_in, hx40]; omega, ad 37, r9, k37, ?_, k1, ?_⟩⟩
      · obtain ⟨ho, c, hc, hp, hG⟩ := hA e0
        refine mO_fetch (ad := ad) k1 k3 k5 k6 k9 k12 (by omega) hnp hRow hq32 hmb' (by omega) (by omega) (by omega) (fun r26 hr26 hr27 _ => ⟨ad 37, r9, sp_widened hx h1 ho (fun h9 => hr26 (by omega)) (fun hr29 _ => ⟨k37, by rw [z_in, hy0]; omega, fun h32 e32 => ?_⟩)⟩)
        have hh := hr.n1 (τ := MT (o - 40)) hB hc hp hr29
        rw [← e32] at hh
        rcases hh.2 with h9 | ⟨-, h9, h8, h7⟩
        · exact absurd rfl h9.1
        · refine nxt h32 _ _ hh.1 (by simp) h9 h8 hG ?_
          have e26 : xb_l h32 (ad 26) = xb_l h (ad 26) := by rw [e32, xh_lL, if_neg (hB.ne (by omega) (by omega) (by omega))]
          have ecc : cc = c := by
            rw [ht1 ho, hc] at hcc
            exact (List.cons.inj hcc).2.symm
          rw [ecc] at hqq
          refine ⟨[], c, q, hc, hqq, fun _ => rfl, fun h9 => by omega, .inr ⟨by rw [eP, emb]; omega, x, f2, .inl ⟨ho, by rw [e26], r26, by rw [eS, emb]; exact hr27, ?_⟩⟩⟩
          rw [h7]
          simp only [List.length_cons]
          rfl
      · obtain ⟨ho, c, hc, hp, hG⟩ := hS2 e0
        exact (hr.tp1 hS hc).1
      · obtain ⟨ho, c, hc, hp, hG⟩ := hS2 e0
        obtain ⟨p1, p2, p3, p4⟩ := hr.tp2 hS hc
        refine mO_store hB k1 k3 k5 k6 k9 k12 (by omega) hnp hRow hq32 hmb' (by omega) (by omega) (fun h42 s i r n k' l eb _ h44 e44 => ?_)
        have hX := (hr.cg (h' := h42) (by rw [i]) (by rw [r]) (by rw [i]) (by rw [n]) (l _ (hB.ne (by omega) (by omega) (by omega)))).pops (pre := [MT (o - 40), 127]) (c := c) (z := xb_i h42 (ad 15) 10 - 2) s.1 (by rw [hc]; rfl) (by rw [i]; exact p2)
        rw [← e44] at hX
        have s44 : stp [15] [] own ad own ad h42 h44 := by rw [e44]; exact stp.Ic s.1
        have n1 : ad 15 ≠ ad 26 := hB.ne (by omega) (by omega) (by omega)
        have n2 : ad 36 ≠ ad 15 := hB.ne (by omega) (by omega) (by omega)
        refine nxt h44 _ _ (s.tr s44) (by simp) hX ⟨by rw [e44, xh_lI, l _ n1], by rw [e44, xh_iI, if_pos rfl, xh_up, if_neg (by omega), i], by rw [e44, xh_iI, if_neg n2, i]⟩ hG ?_
        have e37 : xb_l h44 (ad 37) = xb_l h (ad 37) := by rw [e44, xh_lI, l _ (hB.ne (by omega) (by omega) (by omega))]
        have ecc : cc = c := by
          have h9 := ht2 ho
          have h8 := hcc
          rw [hc] at h8
          match τc, h9, h8 with
          | [_], _, h8 => exact (List.cons.inj (List.cons.inj h8).2).2.symm
        rw [ecc] at hqq
        refine ⟨[MT (o - 40)], c, q, hc, hqq, fun h9 => by omega, fun _ => rfl, .inr ⟨by rw [eP, emb]; omega, x, f2, .inr ⟨ho, ?_, by rw [e37]⟩⟩⟩
        rw [eS, emb, show gO (gx (D - 1)) + c.length + 1 = (xb_i h (ad 15) 10 - 1).toNatClampNeg from ?_]
        · funext a
          rw [e44, xh_lI]
          exact eb a
        · rw [(hr.tp1 hS hc).2.2.1]
          simp only [List.length_cons]
          omega
  unfold w_Machine_useMemory w_Machine_useMemory_L16
  intro v1 ev1
  subst ev1
  rw [z_lt, hx, show (54 : Int32).toInt = 54 from rfl]
  refine ⟨fun e => ⟨fun _ => ⟨k15, ?_⟩, fun e9 => absurd rfl e9⟩, fun e => ⟨fun e9 => absurd e9 (by decide), fun _ => ⟨k15, ?_⟩⟩⟩
  · obtain ⟨c, hc, hG⟩ := f5 (by omega)
    obtain ⟨p1, p2, p3, p4⟩ := hr.tp1 hS hc
    have := z_in.mp p1
    exact L36 _ 0 _ p2 (by omega) p4 (fun _ => ⟨by omega, c, hc, rfl, by rw [show (((o : Int) - 40)).toNat = o - 40 by omega] at hG; exact hG⟩) (fun e9 => absurd rfl e9)
  · obtain ⟨c, hc, hG⟩ := f6 (by omega) (by omega)
    rw [show (((o : Int) - 40)).toNat = o - 40 by omega] at hc
    obtain ⟨p1, p2, p3, p4⟩ := hr.tp2 hS hc
    have := z_in.mp p1
    exact L36 _ 1 _ p2 (by omega) p4 (fun e9 => absurd e9 (by decide)) (fun _ => ⟨by omega, c, hc, rfl, hG⟩)
end UM1
