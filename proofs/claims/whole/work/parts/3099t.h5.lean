-- the class from outside: load, instantiate, invoke
theorem mcnt_two {v : Nat → Int64} : ∀ m : Nat, mcnt v 0 m + mcnt v 3 m ≤ m
  | 0 => Nat.le_refl 0
  | m + 1 => by
    have ih := mcnt_two (v := v) m
    show mcnt v 0 m + (if (v (7 * m + 1)).toInt = 0 then 1 else 0) + (mcnt v 3 m + (if (v (7 * m + 1)).toInt = 3 then 1 else 0)) ≤ m + 1
    split
    · rw [if_neg (by omega)]
      omega
    · split <;> omega
section HO5
variable {own own' own2 ad ad' : Nat → Nat} {h h' h2 : xb_H} {W W' : wD} {σ ts ts' K rc rs bc bs bc' bs' : Nat}
theorem bg.nn (hg : bg ad h rc rs bc bs) (e : ∀ k, k < 41 → xb_n h' (ad k) = xb_n h (ad k)) : bg ad h' rc rs bc bs := (hg.sp (c := 0) (s := 0) (ad' := ad) (h' := h') (fun k hk => ⟨rfl, e k hk⟩)).2.2
/-- the machine is at rest where it is not under way -/
theorem rS.rest (hr : rS ad h W) (h3 : xb_i h (ad 15) 3 = 0) : (xb_i h (ad 15) 3).toInt = 0 ∧ (xb_i h (ad 15) 4).toInt = 0 := by
  have e : (xb_i h (ad 15) 3).toInt = 0 := by rw [h3]; rfl
  rcases hr with h9 | ⟨f, h9, -⟩ | ⟨D, gx, h9, -⟩
  · exact h9
  · omega
  · omega
theorem ho_ruw {Qr : xb_H → Nat → Nat → Prop} {Qt : String → xb_H → Nat → Nat → Prop} (hB : cB own ad h) (hQ : xb_i h (ad 15) 3 = 0 → Qr h bc bs) (hT : xb_i h (ad 15) 3 ≠ 0 → 1 ≤ bc ∧ 6 ≤ bs ∧ Qt "java/lang/IllegalStateException" h (bc - 1) (bs - 6)) : w_H_refuseWhileUnderWay (ad 0) h bc bs Qr Qt := by
  unfold w_H_refuseWhileUnderWay
  exact ⟨hB.k 0 (by omega), ad 15, hB.r (0, 7, 15) (by decide), hB.k 15 (by omega), hQ, hT⟩
theorem mo.im {md : Nat} {d : mD} (hm : mo own h md d) : 31 + (ni d 0 + ni d 3) ≤ 19000 := by
  obtain ⟨-, -, -, -, -, -, -, n8⟩ := hm.nn
  have h4 := hm.2.1.2.2.2.2.2.2.2.2.2.2.2.1 1 (by omega)
  have h5 := hm.1.2.2.2.2
  have h6 := mcnt_two (v := dvs d 1) (dn d 1 / 7)
  rw [n8 0 (by omega), n8 3 (by omega)]
  have : ((0 : Nat) : Int) = 0 := rfl
  have : ((3 : Nat) : Int) = 3 := rfl
  show 31 + (mcnt (dvs d 1) 0 (dn d 1 / 7) + mcnt (dvs d 1) 3 (dn d 1 / 7)) ≤ 19000
  omega
end HO5
