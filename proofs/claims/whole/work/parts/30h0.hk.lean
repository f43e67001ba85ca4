-- equality: instantiate, rows that other instances do not look at
section HL
variable {own : Nat → Nat} {mm i k κ : Nat} {A : Nat → Nat} {h hj : xb_H} {F : Nat → Nat → Int32} {v u w : Nat → Int32} {DM : Nat → zM} {len rl K : Nat} {D : zM} {r is : Int32}
theorem mnV_33 (hA : rA own mm A h F v DM len rl K) (hi : i < vN v 30) (hw : ∀ j, j < vN v 34 → w j = F (A 33) j) : mnV A (va_up F (A 33) w) DM i κ k = mnV A F DM i κ k := by
  have up : ∀ c, (∃ e ∈ aL, e.1 = c) → c ≠ 33 → va_up F (A 33) w (A c) = F (A c) := fun c hc hn => hA.1.up (by decide) hc hn
  obtain ⟨m, ip, -, -, -, -, ⟨d1, d2, -⟩, ⟨-, d3, -⟩, -⟩ := hA.I.2.2.1 i hi
  have d1' : (F (A 31) i).toInt = m := d1
  have d2' : (F (A 32) i).toInt = ip := d2
  unfold mnV
  rw [up 31 (by decide) (by decide), up 32 (by decide) (by decide), up 35 (by decide) (by decide), up 36 (by decide) (by decide), up 37 (by decide) (by decide), up 38 (by decide) (by decide), xh_up F (A 33) w (A 33), if_pos rfl, d1', d2', Int.toNat_natCast, Int.toNat_natCast]
  by_cases h9 : k < iM (DM m) κ
  · rw [if_pos h9, if_pos h9, hw _ (by have := (ikx_f (D := DM m) (κ := κ) (n := qt (DM m) 2) h9).1; omega)]
  · rw [if_neg h9, if_neg h9]
theorem foI_33 (hA : rA own mm A h F v DM len rl K) (hw : ∀ j, j < vN v 34 → w j = F (A 33) j) (hv : vg v u) (hf : foI A (va_up F (A 33) w) DM u D k is) : foI A F DM v D k is := by
  have up : ∀ c, (∃ e ∈ aL, e.1 = c) → c ≠ 33 → va_up F (A 33) w (A c) = F (A c) := fun c hc hn => hA.1.up (by decide) hc hn
  have e42 : vN u 42 = vN v 42 := by
    unfold vN
    rw [hv 42 (by decide) (by decide) (by decide) (by decide) (by decide)]
  obtain ⟨o1, o2, n1, n2, x, eo1, en1, hx, eo2, en2, hb⟩ := hf
  refine ⟨o1, o2, n1, n2, x, eo1, en1, hx, eo2, en2, ?_⟩
  unfold hsR inR inS at *
  rw [up 3 (by decide) (by decide), up 31 (by decide) (by decide), up 39 (by decide) (by decide), up 40 (by decide) (by decide), up 41 (by decide) (by decide), e42] at hb
  rcases hb with hb | ⟨b1, i, b2, b3⟩
  · exact .inl hb
  · refine .inr ⟨b1, i, b2, ?_⟩
    rcases b3 with b3 | ⟨iN, mo_, c1, c2, e, c3, c4⟩
    · exact .inl b3
    · refine .inr ⟨iN, mo_, c1, c2, e, c3, ?_⟩
      rcases c4 with c4 | ⟨ke, c4, c5⟩
      · exact .inl c4
      · refine .inr ⟨ke, c4, ?_⟩
        rcases c5 with c5 | ⟨c5, c6⟩
        · exact .inl c5
        · refine .inr ⟨c5, ?_⟩
          have hiN : iN < vN v 30 := by
            rcases b2 with ⟨b2, -⟩ | ⟨kk, b2, -, -, b4⟩
            · rw [b2] at c1
              have : (-1 : Int32).toInt = -1 := rfl
              omega
            · obtain ⟨nf, ns, no, -, -, k3, -, k5⟩ := hA.I.2.2.2.1.2.2.2.2.2.2 kk b2
              have k3' : (F (A 41) kk).toInt = no := k3
              rw [b4] at c1
              omega
          rw [mnV_33 hA hiN hw] at c6
          exact c6
theorem fiS_33 {g : Nat} (hB : mB own mm A h) (hq : lq mm h hj) : fiS A hj (va_up F (A 33) w) DM D k g ↔ fiS A h F DM D k g := by
  have up : ∀ c, (∃ e ∈ aL, e.1 = c) → c ≠ 33 → va_up F (A 33) w (A c) = F (A c) := fun c hc hn => hB.up (by decide) hc hn
  have lg : ∀ c, (∃ e ∈ aL, e.1 = c) → xb_l hj (A c) = xb_l h (A c) := fun c hc => hq.2.2.2.1 _ (hB.nm hc)
  have fs := fMo.st (φ := fun k => F (A k)) (φ' := fun k => va_up F (A 33) w (A k)) (DM := DM) (up 31 (by decide) (by decide)) (up 44 (by decide) (by decide)) (up 45 (by decide) (by decide))
  unfold fiS
  rw [fs.2.2.1, fs.2.2.2, up 49 (by decide) (by decide), up 54 (by decide) (by decide), up 59 (by decide) (by decide), up 60 (by decide) (by decide), lg 50 (by decide), lg 55 (by decide)]
/-- what an import is given does not hang on rows of the new instance -/
theorem foS_R (hA : rA own mm A h F v DM len rl K) (hf : foS A h F DM v D mm k r) : foR A h F DM v D k r := by
  obtain ⟨w, hj, u, hw, hq, hv, is, h1, h2⟩ := hf
  refine ⟨is, foI_33 hA hw hv h1, ?_⟩
  rcases h2 with h2 | ⟨g, g1, g2⟩
  · exact .inl h2
  · refine .inr ⟨g, g1, ?_⟩
    rw [fiS_33 hA.1 hq] at g2
    exact g2
end HL
section HM
variable {own : Nat → Nat} {h : xb_H} {md k κ : Nat} {d : mD} {D : zM} {W : wD} {v : Nat → Int32} {r4 y4 r7 y7 : Int64}
theorem mdQ.ow (hq : mdQ d D) (hκ : κ < 4) (hk : k < qt D (3 + κ)) : epO (qc D) (qb D) κ (qp D (3 + κ) k) (fun j => (dvs d (2 + κ) (imL κ * (iM D κ + k) + j)).toInt) := by
  obtain ⟨b, N, cA, S, ω, h1, h2, h3⟩ := hq
  obtain ⟨vs0, νr, hE, k9, k9', -, -, hcx, hdN, hS10⟩ := h2
  have := zk_ow hE h1 hκ hk
  subst h1
  rw [k9 (2 + κ) (by omega)]
  exact this
theorem mdQ.ol3 (hq : mdQ d D) (hm : mo own h md d) (h4 : olV D 4 r4 y4) : ol d 3 1 = r4.toInt ∧ (0 < qt D 4 → iM D 1 = 0 ∧ (dvs d 3 2).toInt = y4.toInt) := by
  have n3 := hq.n.2.2.1
  have hle := hm.2.1.2.2.2.1.2
  have hni := hq.n.2.2.2.2.2.1 1 (by decide)
  unfold ol
  rcases h4 with ⟨a1, a2, a3⟩ | ⟨a1, a2, a3⟩
  · rw [if_neg (by omega), a2]
    exact ⟨rfl, fun h9 => by omega⟩
  · have i0 : iM D 1 = 0 := by omega
    rw [if_pos (by omega)]
    have e := (hq.ow (κ := 1) (k := 0) (by decide) a1).2.1 rfl
    obtain ⟨-, e1, e2⟩ := e
    have e1' : (dvs d 3 (3 * (iM D 1 + 0) + 1)).toInt = cV (qc D) (qp D 4 0 + 1 + 1) := e1
    have e2' : (dvs d 3 (3 * (iM D 1 + 0) + 2)).toInt = lsM (qc D) (qp D 4 0 + 1) := e2
    rw [i0] at e1' e2'
    exact ⟨by rw [a2]; exact e1', fun _ => ⟨i0, by rw [a3]; exact e2'⟩⟩
theorem mdQ.ol4 (hq : mdQ d D) (hm : mo own h md d) (h4 : olV D 5 r7 y7) : ol d 4 2 = r7.toInt ∧ (0 < qt D 5 → iM D 2 = 0 ∧ (dvs d 4 2).toInt = y7.toInt) := by
  have n3 := hq.n.2.2.2.1
  have hle := hm.2.1.2.2.2.2.1.2.1
  have hni := hq.n.2.2.2.2.2.1 2 (by decide)
  unfold ol
  rcases h4 with ⟨a1, a2, a3⟩ | ⟨a1, a2, a3⟩
  · rw [if_neg (by omega), a2]
    exact ⟨rfl, fun h9 => by omega⟩
  · have i0 : iM D 2 = 0 := by omega
    rw [if_pos (by omega)]
    have e := (hq.ow (κ := 2) (k := 0) (by decide) a1).2.2.1 rfl
    obtain ⟨-, e1, e2⟩ := e
    have e1' : (dvs d 4 (3 * (iM D 2 + 0) + 1)).toInt = cV (qc D) (qp D 5 0 + 0 + 1) := e1
    have e2' : (dvs d 4 (3 * (iM D 2 + 0) + 2)).toInt = lsM (qc D) (qp D 5 0 + 0) := e2
    rw [i0] at e1' e2'
    exact ⟨by rw [a2]; exact e1', fun _ => ⟨i0, by rw [a3]; exact e2'⟩⟩
/-- whether there is room, in both -/
theorem mdQ.room (hq : mdQ d D) (hm : mo own h md d) (h4 : olV D 4 r4 y4) (h7 : olV D 5 r7 y7) (c1 : vN v 30 = wic W) (c2 : vN v 43 = wno W) (c3 : vN v 58 = wnv W) (c4 : vN v 47 = wne W) (c5 : vN v 53 = wnp W) : tmO W d ↔ ¬ nRm v D r4 r7 := by
  obtain ⟨o3, -⟩ := hq.ol3 hm h4
  obtain ⟨o4, -⟩ := hq.ol4 hm h7
  obtain ⟨-, n2, n3, n4, n5, n6, -⟩ := hq.n
  have i0 := n6 0 (by decide)
  have i3 := n6 3 (by decide)
  have hnf : nf d - ni d 0 = qt D 3 := by unfold nf; omega
  have hnv : nvr d - ni d 3 = qt D 6 := by unfold nvr; omega
  unfold tmO nRm
  rw [hnf, hnv, o3, o4, c1, c2, c3, c4, c5]
  omega
end HM
